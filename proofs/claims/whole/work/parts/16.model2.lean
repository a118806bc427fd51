theorem kX4_open_f7 : Cond.fieldLink RX4 7 "StreamMultiplexerModel" "w" "[I" ∈ wsX4_open := List.mem_of_getElem? (i := 1) rfl
theorem uX4_open_X4 : ∀ w ∈ wsX40, w ∈ wsX4_open := fun w h => List.mem_cons_of_mem _ (List.mem_append_right _ h)
theorem kX4_close_f7 : Cond.fieldLink RX4 7 "StreamMultiplexerModel" "w" "[I" ∈ wsX4_close := List.mem_of_getElem? (i := 1) rfl
theorem uX4_close_X4 : ∀ w ∈ wsX40, w ∈ wsX4_close := fun w h => List.mem_cons_of_mem _ (List.mem_append_right _ h)
theorem kX4_setWeight_f7 : Cond.fieldLink RX4 7 "StreamMultiplexerModel" "w" "[I" ∈ wsX4_setWeight := List.mem_of_getElem? (i := 1) rfl
theorem uX4_setWeight_X4 : ∀ w ∈ wsX40, w ∈ wsX4_setWeight := fun w h => List.mem_cons_of_mem _ (List.mem_append_right _ h)
theorem kX4_push_f7 : Cond.fieldLink RX4 7 "StreamMultiplexerModel" "w" "[I" ∈ wsX4_push := List.mem_of_getElem? (i := 1) rfl
theorem uX4_push_X4 : ∀ w ∈ wsX40, w ∈ wsX4_push := fun w h => List.mem_cons_of_mem _ (List.mem_append_right _ h)
theorem kX4_edge_f7 : Cond.fieldLink RX4 7 "StreamMultiplexerModel" "w" "[I" ∈ wsX4_edge := List.mem_of_getElem? (i := 2) rfl
theorem uX4_edge_X4 : ∀ w ∈ wsX40, w ∈ wsX4_edge := fun w h => List.mem_cons_of_mem _ (List.mem_append_right _ h)
theorem kX4_edge_f19 : Cond.fieldLink RX4 19 "StreamMultiplexerModel" "after" "[I" ∈ wsX4_edge := List.mem_of_getElem? (i := 1) rfl
theorem kX4_commit_f7 : Cond.fieldLink RX4 7 "StreamMultiplexerModel" "w" "[I" ∈ wsX4_commit := List.mem_of_getElem? (i := 1) rfl
theorem uX4_commit_X4 : ∀ w ∈ wsX40, w ∈ wsX4_commit := fun w h => List.mem_cons_of_mem _ (List.mem_append_right _ h)
theorem kX4_revert_f7 : Cond.fieldLink RX4 7 "StreamMultiplexerModel" "w" "[I" ∈ wsX4_revert := List.mem_of_getElem? (i := 1) rfl
theorem uX4_revert_X4 : ∀ w ∈ wsX40, w ∈ wsX4_revert := fun w h => List.mem_cons_of_mem _ (List.mem_append_right _ h)
theorem kX4_sendNext_f7 : Cond.fieldLink RX4 7 "StreamMultiplexerModel" "w" "[I" ∈ wsX4_sendNext := List.mem_of_getElem? (i := 1) rfl
theorem uX4_sendNext_X4 : ∀ w ∈ wsX40, w ∈ wsX4_sendNext := fun w h => List.mem_cons_of_mem _ (List.mem_append_right _ h)
theorem kX4_before_f22 : Cond.fieldLink RX4 22 "StreamMultiplexerModel" "held" "[I" ∈ wsX4_before := List.mem_of_getElem? (i := 1) rfl
theorem uX4_before_X4 : ∀ w ∈ wsX40, w ∈ wsX4_before := fun w h => List.mem_cons_of_mem _ (List.mem_append_right _ h)
theorem kX4_before_f7 : Cond.fieldLink RX4 7 "StreamMultiplexerModel" "w" "[I" ∈ wsX4_before := List.mem_of_getElem? (i := 2) rfl
theorem kX4_undo_f39 : Cond.fieldLink RX4 39 "StreamMultiplexerModel" "pastMany" "I" ∈ wsX4_undo := List.mem_of_getElem? (i := 1) rfl
theorem uX4_undo_X4 : ∀ w ∈ wsX40, w ∈ wsX4_undo := fun w h => List.mem_cons_of_mem _ (List.mem_append_right _ h)
theorem kX4_undo_f7 : Cond.fieldLink RX4 7 "StreamMultiplexerModel" "w" "[I" ∈ wsX4_undo := List.mem_of_getElem? (i := 2) rfl
theorem kX4_undo_f13 : Cond.fieldLink RX4 13 "StreamMultiplexerModel" "past" "[I" ∈ wsX4_undo := List.mem_of_getElem? (i := 3) rfl
theorem kX4_told_f7 : Cond.fieldLink RX4 7 "StreamMultiplexerModel" "w" "[I" ∈ wsX4_told := List.mem_of_getElem? (i := 1) rfl
theorem uX4_told_X4 : ∀ w ∈ wsX40, w ∈ wsX4_told := fun w h => List.mem_cons_of_mem _ (List.mem_append_right _ h)
theorem kX4_told_f39 : Cond.fieldLink RX4 39 "StreamMultiplexerModel" "pastMany" "I" ∈ wsX4_told := List.mem_of_getElem? (i := 2) rfl
theorem kX4_stream_f7 : Cond.fieldLink RX4 7 "StreamMultiplexerModel" "w" "[I" ∈ wsX4_stream := List.mem_of_getElem? (i := 1) rfl
theorem uX4_stream_X4 : ∀ w ∈ wsX40, w ∈ wsX4_stream := fun w h => List.mem_cons_of_mem _ (List.mem_append_right _ h)
theorem kX4_frame_f7 : Cond.fieldLink RX4 7 "StreamMultiplexerModel" "w" "[I" ∈ wsX4_frame := List.mem_of_getElem? (i := 1) rfl
theorem uX4_frame_X4 : ∀ w ∈ wsX40, w ∈ wsX4_frame := fun w h => List.mem_cons_of_mem _ (List.mem_append_right _ h)
theorem kX4_log_f7 : Cond.fieldLink RX4 7 "StreamMultiplexerModel" "w" "[I" ∈ wsX4_log := List.mem_of_getElem? (i := 1) rfl
theorem uX4_log_X4 : ∀ w ∈ wsX40, w ∈ wsX4_log := fun w h => List.mem_cons_of_mem _ (List.mem_append_right _ h)
theorem kX4_relation_f19 : Cond.fieldLink RX4 19 "StreamMultiplexerModel" "after" "[I" ∈ wsX4_relation := List.mem_of_getElem? (i := 1) rfl
theorem uX4_relation_X4 : ∀ w ∈ wsX40, w ∈ wsX4_relation := fun w h => List.mem_cons_of_mem _ (List.mem_append_right _ h)
theorem kX4_relation_f7 : Cond.fieldLink RX4 7 "StreamMultiplexerModel" "w" "[I" ∈ wsX4_relation := List.mem_of_getElem? (i := 2) rfl
theorem kX4_lists_f31 : Cond.fieldLink RX4 31 "StreamMultiplexerModel" "counts" "[J" ∈ wsX4_lists := List.mem_of_getElem? (i := 2) rfl
theorem uX4_lists_X4 : ∀ w ∈ wsX40, w ∈ wsX4_lists := fun w h => List.mem_cons_of_mem _ (List.mem_append_right _ h)
theorem kX4_lists_f19 : Cond.fieldLink RX4 19 "StreamMultiplexerModel" "after" "[I" ∈ wsX4_lists := List.mem_of_getElem? (i := 3) rfl
theorem kX4_witness_f25 : Cond.fieldLink RX4 25 "StreamMultiplexerModel" "left" "[I" ∈ wsX4_witness := List.mem_of_getElem? (i := 1) rfl
theorem uX4_witness_X4 : ∀ w ∈ wsX40, w ∈ wsX4_witness := fun w h => List.mem_cons_of_mem _ (List.mem_append_right _ h)
theorem kX4_witness_f7 : Cond.fieldLink RX4 7 "StreamMultiplexerModel" "w" "[I" ∈ wsX4_witness := List.mem_of_getElem? (i := 2) rfl
theorem kX4_keep_f16 : Cond.fieldLink RX4 16 "StreamMultiplexerModel" "images" "[I" ∈ wsX4_keep := List.mem_of_getElem? (i := 1) rfl
theorem uX4_keep_X4 : ∀ w ∈ wsX40, w ∈ wsX4_keep := fun w h => List.mem_cons_of_mem _ (List.mem_append_right _ h)
theorem kX4_keep_f7 : Cond.fieldLink RX4 7 "StreamMultiplexerModel" "w" "[I" ∈ wsX4_keep := List.mem_of_getElem? (i := 2) rfl
theorem kX4_keep_f139 : Cond.fieldLink RX4 139 "StreamMultiplexerModel" "filled" "I" ∈ wsX4_keep := List.mem_of_getElem? (i := 3) rfl
theorem kX4_back_f139 : Cond.fieldLink RX4 139 "StreamMultiplexerModel" "filled" "I" ∈ wsX4_back := List.mem_of_getElem? (i := 1) rfl
theorem uX4_back_X4 : ∀ w ∈ wsX40, w ∈ wsX4_back := fun w h => List.mem_cons_of_mem _ (List.mem_append_right _ h)
theorem kX4_back_f7 : Cond.fieldLink RX4 7 "StreamMultiplexerModel" "w" "[I" ∈ wsX4_back := List.mem_of_getElem? (i := 2) rfl
theorem kX4_back_f16 : Cond.fieldLink RX4 16 "StreamMultiplexerModel" "images" "[I" ∈ wsX4_back := List.mem_of_getElem? (i := 3) rfl
set_option maxHeartbeats 4000000 in
set_option maxRecDepth 100000 in
theorem ctX4_open_b {l : Launch} {D : va_G} {T : Nat → ClassId} {L : List Nat} {A : Nat → Prop} {Sh : hm_S} {I : hm_I} {J : hm_J} {b : Nat} (hMo : IsM L Sh b) {s0 w0 : Int32} (hb0 : (fX4_isStream s0 && fX4_isIn w0 (nI 1) (nI 9)) = false) :
    Ct l yX4_open wsX4_open { frames := 2, cells := 0, slots := 0, locals := 42 } 0 0 D T A [.ref b, .int s0, .int w0] (hm D T L A Sh I J) (some (.int (-1))) (hm D T L A Sh I J) := by
  refine Ct.ofW (cc := cX4_open) (maxL := 3) (ret := (some .int)) (by decide) rfl (Nat.le_of_ble_eq_true rfl) ?_
  intro p_ e_ s_ m_ args_ below_ meth_ c_ ls R Qq hR hQ C0 hr hlk hname hM hl
  have hx := C0.1.1
  have hb := C0.1.2.1
  have hS : va_S A s_.heap s_.heap [] := va_S.rf
  have hl : lv_has ls 3 [(0, .ref b), (1, .int s0), (2, .int w0)] := hl
  refine lv_iload_n hx hb dX4_open_0 rfl (lv_at hl 1 rfl) ?_
  refine mr_callS (As := [.int s0]) C0 (ctX4_isStream (I := I) (J := J) (s0 := s0) ) (va_cwS 1 C0.1.2.2.2.2 gX4_open_X4_isStream rfl rfl rfl (by decide +kernel) (by rw [hR]; exact ⟨Nat.le_of_ble_eq_true rfl, Nat.le_of_ble_eq_true rfl⟩)) hM hS rfl rfl rfl hl.1 (Nat.le_of_ble_eq_true rfl) dX4_open_1 (by rw [hR]; exact ⟨Nat.zero_le _, Nat.zero_le _⟩) (fun H locs hM hS => ?_)
  refine mr_eqB (tgt := 17) C0 dX4_open_4 (by decide) (fun c1 => ?_) (fun c1 => ?_)
  · skip
    refine lv_iconst (v := (-1)) hx hb dX4_open_17 (by decide) ?_
    skip
    exact mr_iret (v := (-1)) C0 hr hlk hQ hS rfl hM (Nat.le_refl _) (Nat.le_refl _) dX4_open_18
  · skip
    refine lv_iload_n hx hb dX4_open_7 rfl (lv_at hl 2 rfl) ?_
    refine lv_iconst (v := nI 1) hx hb dX4_open_8 (by decide) ?_
    refine lv_bipush (v := nI 9) hx hb dX4_open_9 (by decide) ?_
    refine mr_callS (As := [.int w0, .int (nI 1), .int (nI 9)]) C0 (ctX4_isIn (I := I) (J := J) (v := w0) (lo := (nI 1)) (up := (nI 9)) ) (va_cwS 3 C0.1.2.2.2.2 gX4_open_X4_isIn rfl rfl rfl (by decide +kernel) (by rw [hR]; exact ⟨Nat.le_of_ble_eq_true rfl, Nat.le_of_ble_eq_true rfl⟩)) hM hS rfl rfl rfl hl.1 (Nat.le_of_ble_eq_true rfl) dX4_open_11 (by rw [hR]; exact ⟨Nat.zero_le _, Nat.zero_le _⟩) (fun H locs hM hS => ?_)
    refine mr_neB (tgt := 19) C0 dX4_open_14 (by decide) (fun c2 => absurd hb0 (by rw [c1, c2]; decide)) (fun c2 => ?_)
    refine lv_iconst (v := (-1)) hx hb dX4_open_17 (by decide) ?_
    skip
    exact mr_iret (v := (-1)) C0 hr hlk hQ hS rfl hM (Nat.le_refl _) (Nat.le_refl _) dX4_open_18
def fX4_open_t (I : hm_I) (b pm s0 : Nat) (w0 : Int32) : Int32 × hm_I :=
  if fX4_isOpen I b s0 = true then ((-2), I) else (fX4_opened (hm_put (hm_put (hm_put (fX4_remember I b pm) (b + 1) (0 + s0) (nI 1)) (b + 1) (8 + s0) w0) (b + 1) (16 + s0) (nI 0)) b, hm_put (hm_put (hm_put (fX4_remember I b pm) (b + 1) (0 + s0) (nI 1)) (b + 1) (8 + s0) w0) (b + 1) (16 + s0) (nI 0))
set_option maxHeartbeats 4000000 in
set_option maxRecDepth 100000 in
theorem ctX4_open_t {l : Launch} {D : va_G} {T : Nat → ClassId} {L : List Nat} {A : Nat → Prop} {Sh : hm_S} {I : hm_I} {J : hm_J} {b : Nat} (hMo : IsM L Sh b) {pm : Nat} (hpm : I b 2 = nI pm) (hp8 : pm ≤ 8) {s0 : Nat} {w0 : Int32} (hs0 : s0 < 8) (hw0 : fX4_isIn w0 (nI 1) (nI 9) = true) :
    Ct l yX4_open wsX4_open { frames := 2, cells := 0, slots := 0, locals := 42 } 0 0 D T A [.ref b, .int (nI s0), .int w0] (hm D T L A Sh I J) (some (.int ((fX4_open_t I b pm s0 w0).1))) (hm D T L A Sh ((fX4_open_t I b pm s0 w0).2) J) := by
  refine Ct.ofW (cc := cX4_open) (maxL := 3) (ret := (some .int)) (by decide) rfl (Nat.le_of_ble_eq_true rfl) ?_
  intro p_ e_ s_ m_ args_ below_ meth_ c_ ls R Qq hR hQ C0 hr hlk hname hM hl
  have hx := C0.1.1
  have hb := C0.1.2.1
  have hS : va_S A s_.heap s_.heap [] := va_S.rf
  have hl : lv_has ls 3 [(0, .ref b), (1, .int (nI s0)), (2, .int w0)] := hl
  refine lv_iload_n hx hb dX4_open_0 rfl (lv_at hl 1 rfl) ?_
  refine mr_callS (As := [.int (nI s0)]) C0 (isStreamM_t (I := I) (J := J) (s0 := s0) (by omega)) (va_cwS 1 C0.1.2.2.2.2 gX4_open_X4_isStream rfl rfl rfl (by decide +kernel) (by rw [hR]; exact ⟨Nat.le_of_ble_eq_true rfl, Nat.le_of_ble_eq_true rfl⟩)) hM hS rfl rfl rfl hl.1 (Nat.le_of_ble_eq_true rfl) dX4_open_1 (by rw [hR]; exact ⟨Nat.zero_le _, Nat.zero_le _⟩) (fun H locs hM hS => ?_)
  refine mr_eqB (tgt := 17) C0 dX4_open_4 (by decide) (fun c1 => absurd c1 (by decide)) (fun _ => ?_)
  refine lv_iload_n hx hb dX4_open_7 rfl (lv_at hl 2 rfl) ?_
  refine lv_iconst (v := nI 1) hx hb dX4_open_8 (by decide) ?_
  refine lv_bipush (v := nI 9) hx hb dX4_open_9 (by decide) ?_
  refine mr_callS (As := [.int w0, .int (nI 1), .int (nI 9)]) C0 (ctX4_isIn (I := I) (J := J) (v := w0) (lo := (nI 1)) (up := (nI 9)) ) (va_cwS 3 C0.1.2.2.2.2 gX4_open_X4_isIn rfl rfl rfl (by decide +kernel) (by rw [hR]; exact ⟨Nat.le_of_ble_eq_true rfl, Nat.le_of_ble_eq_true rfl⟩)) hM hS rfl rfl rfl hl.1 (Nat.le_of_ble_eq_true rfl) dX4_open_11 (by rw [hR]; exact ⟨Nat.zero_le _, Nat.zero_le _⟩) (fun H locs hM hS => ?_)
  refine mr_neB (tgt := 19) C0 dX4_open_14 (by decide) (fun c2 => ?_) (fun c2 => absurd c2 (by rw [hw0]; decide))
  refine lv_aload_n hx hb dX4_open_19 rfl (lv_at hl 0 rfl) ?_
  refine lv_iload_n hx hb dX4_open_20 rfl (lv_at hl 1 rfl) ?_
  refine mr_callV (As := [.int (nI s0)]) C0 (ctX4_isOpen (I := I) (J := J) (b := b) (s0 := s0) hMo (by omega)) (cwV 1 C0.1.2.2.2.2 gX4_open_X4_isOpen rfl rfl rfl (by decide +kernel) (by rw [hR]; exact ⟨Nat.le_of_ble_eq_true rfl, Nat.le_of_ble_eq_true rfl⟩)) hM hMo.1.1 hMo.1.2 rfl rfl hM hS rfl rfl rfl hl.1 (Nat.le_of_ble_eq_true rfl) dX4_open_21 (by rw [hR]; exact ⟨Nat.zero_le _, Nat.zero_le _⟩) (fun H locs hM hS => ?_)
  refine mr_eqB (tgt := 30) C0 dX4_open_24 (by decide) (fun c3 => ?_) (fun c3 => ?_)
  · skip
    refine lv_aload_n hx hb dX4_open_30 rfl (lv_at hl 0 rfl) ?_
    refine mr_callV (As := []) C0 (ctX4_remember (I := I) (J := J) (b := b) hMo hpm (by omega)) (cwV 0 C0.1.2.2.2.2 gX4_open_X4_remember rfl rfl rfl (by decide +kernel) (by rw [hR]; exact ⟨Nat.le_of_ble_eq_true rfl, Nat.le_of_ble_eq_true rfl⟩)) hM hMo.1.1 hMo.1.2 rfl rfl hM hS rfl rfl rfl hl.1 (Nat.le_of_ble_eq_true rfl) dX4_open_31 (by rw [hR]; exact ⟨Nat.zero_le _, Nat.zero_le _⟩) (fun H locs hM hS => ?_)
    refine lv_aload_n hx hb dX4_open_34 rfl (lv_at hl 0 rfl) ?_
    refine mr_getr (r := b + 1) (TT := TX4) (N := 10) C0 uX4_open_X4 hM hMo.1.1 hMo.1.2 rfl 0 (by decide) rfl kX4_open_f7 rfl dX4_open_35 ?_
    refine lv_iconst (v := nI 0) hx hb dX4_open_38 (by decide) ?_
    refine lv_iload_n hx hb dX4_open_39 rfl (lv_at hl 1 rfl) ?_
    refine mr_iaddN (z := 0 + s0) C0 rfl dX4_open_40 ?_
    refine lv_iconst (v := nI 1) hx hb dX4_open_41 (by decide) ?_
    refine mr_iastN C0 hM hS hMo.2.1.1 hMo.2.1.2 (by decide) (by omega) dX4_open_42 (fun H locs hM hS => ?_)
    refine lv_aload_n hx hb dX4_open_43 rfl (lv_at hl 0 rfl) ?_
    refine mr_getr (r := b + 1) (TT := TX4) (N := 10) C0 uX4_open_X4 hM hMo.1.1 hMo.1.2 rfl 0 (by decide) rfl kX4_open_f7 rfl dX4_open_44 ?_
    refine lv_bipush (v := nI 8) hx hb dX4_open_47 (by decide) ?_
    refine lv_iload_n hx hb dX4_open_49 rfl (lv_at hl 1 rfl) ?_
    refine mr_iaddN (z := 8 + s0) C0 rfl dX4_open_50 ?_
    refine lv_iload_n hx hb dX4_open_51 rfl (lv_at hl 2 rfl) ?_
    refine mr_iastN C0 hM hS hMo.2.1.1 hMo.2.1.2 (by decide) (by omega) dX4_open_52 (fun H locs hM hS => ?_)
    refine lv_aload_n hx hb dX4_open_53 rfl (lv_at hl 0 rfl) ?_
    refine mr_getr (r := b + 1) (TT := TX4) (N := 10) C0 uX4_open_X4 hM hMo.1.1 hMo.1.2 rfl 0 (by decide) rfl kX4_open_f7 rfl dX4_open_54 ?_
    refine lv_bipush (v := nI 16) hx hb dX4_open_57 (by decide) ?_
    refine lv_iload_n hx hb dX4_open_59 rfl (lv_at hl 1 rfl) ?_
    refine mr_iaddN (z := 16 + s0) C0 rfl dX4_open_60 ?_
    refine lv_iconst (v := nI 0) hx hb dX4_open_61 (by decide) ?_
    refine mr_iastN C0 hM hS hMo.2.1.1 hMo.2.1.2 (by decide) (by omega) dX4_open_62 (fun H locs hM hS => ?_)
    refine lv_aload_n hx hb dX4_open_63 rfl (lv_at hl 0 rfl) ?_
    refine mr_callV (As := []) C0 (ctX4_opened (I := (hm_put (hm_put (hm_put (fX4_remember I b pm) (b + 1) (0 + s0) (nI 1)) (b + 1) (8 + s0) w0) (b + 1) (16 + s0) (nI 0))) (J := J) (b := b) hMo) (cwV 0 C0.1.2.2.2.2 gX4_open_X4_opened rfl rfl rfl (by decide +kernel) (by rw [hR]; exact ⟨Nat.le_of_ble_eq_true rfl, Nat.le_of_ble_eq_true rfl⟩)) hM hMo.1.1 hMo.1.2 rfl rfl hM hS rfl rfl rfl hl.1 (Nat.le_of_ble_eq_true rfl) dX4_open_64 (by rw [hR]; exact ⟨Nat.zero_le _, Nat.zero_le _⟩) (fun H locs hM hS => ?_)
    have eF : (fX4_opened (hm_put (hm_put (hm_put (fX4_remember I b pm) (b + 1) (0 + s0) (nI 1)) (b + 1) (8 + s0) w0) (b + 1) (16 + s0) (nI 0)) b, hm_put (hm_put (hm_put (fX4_remember I b pm) (b + 1) (0 + s0) (nI 1)) (b + 1) (8 + s0) w0) (b + 1) (16 + s0) (nI 0)) = fX4_open_t I b pm s0 w0 := by unfold fX4_open_t; rw [if_neg (Bool.eq_false_iff.mp c3)]
    exact mr_iret (v := fX4_opened (hm_put (hm_put (hm_put (fX4_remember I b pm) (b + 1) (0 + s0) (nI 1)) (b + 1) (8 + s0) w0) (b + 1) (16 + s0) (nI 0)) b) C0 hr hlk hQ hS (by rw [← eF]) (by rw [← eF]; exact hM) (Nat.le_refl _) (Nat.le_refl _) dX4_open_67
  · skip
    refine lv_bipush (v := (-2)) hx hb dX4_open_27 (by decide) ?_
    have eF : ((-2), I) = fX4_open_t I b pm s0 w0 := by unfold fX4_open_t; rw [if_pos c3]
    exact mr_iret (v := (-2)) C0 hr hlk hQ hS (by rw [← eF]) (by rw [← eF]; exact hM) (Nat.le_refl _) (Nat.le_refl _) dX4_open_29
set_option maxHeartbeats 4000000 in
set_option maxRecDepth 100000 in
theorem ctX4_close_b {l : Launch} {D : va_G} {T : Nat → ClassId} {L : List Nat} {A : Nat → Prop} {Sh : hm_S} {I : hm_I} {J : hm_J} {b : Nat} (hMo : IsM L Sh b) {s0 : Int32} (hb0 : fX4_isStream s0 = false) :
    Ct l yX4_close wsX4_close { frames := 2, cells := 0, slots := 0, locals := 42 } 0 0 D T A [.ref b, .int s0] (hm D T L A Sh I J) (some (.int (-1))) (hm D T L A Sh I J) := by
  refine Ct.ofW (cc := cX4_close) (maxL := 3) (ret := (some .int)) (by decide) rfl (Nat.le_of_ble_eq_true rfl) ?_
  intro p_ e_ s_ m_ args_ below_ meth_ c_ ls R Qq hR hQ C0 hr hlk hname hM hl
  have hx := C0.1.1
  have hb := C0.1.2.1
  have hS : va_S A s_.heap s_.heap [] := va_S.rf
  have hl : lv_has ls 3 [(0, .ref b), (1, .int s0)] := hl
  refine lv_iload_n hx hb dX4_close_0 rfl (lv_at hl 1 rfl) ?_
  refine mr_callS (As := [.int s0]) C0 (ctX4_isStream (I := I) (J := J) (s0 := s0) ) (va_cwS 1 C0.1.2.2.2.2 gX4_close_X4_isStream rfl rfl rfl (by decide +kernel) (by rw [hR]; exact ⟨Nat.le_of_ble_eq_true rfl, Nat.le_of_ble_eq_true rfl⟩)) hM hS rfl rfl rfl hl.1 (Nat.le_of_ble_eq_true rfl) dX4_close_1 (by rw [hR]; exact ⟨Nat.zero_le _, Nat.zero_le _⟩) (fun H locs hM hS => ?_)
  refine mr_neB (tgt := 9) C0 dX4_close_4 (by decide) (fun c1 => absurd c1 (by rw [hb0]; decide)) (fun c1 => ?_)
  refine lv_iconst (v := (-1)) hx hb dX4_close_7 (by decide) ?_
  skip
  exact mr_iret (v := (-1)) C0 hr hlk hQ hS rfl hM (Nat.le_refl _) (Nat.le_refl _) dX4_close_8
def fX4_close_t (I : hm_I) (b pm : Nat) (c : Nat → Nat) (s0 : Nat) : Int32 × hm_I :=
  if fX4_isOpen I b s0 = true then if (c s0) = 0 then ((fX4_remember I b pm) (b + 1) (16 + s0), hm_put (hm_put (hm_put (fX4_remember I b pm) (b + 1) (0 + s0) (nI 0)) (b + 1) (8 + s0) (nI 0)) (b + 1) (16 + s0) (nI 0)) else ((-2), I) else ((-2), I)
set_option maxHeartbeats 4000000 in
set_option maxRecDepth 100000 in
theorem ctX4_close_t {l : Launch} {D : va_G} {T : Nat → ClassId} {L : List Nat} {A : Nat → Prop} {Sh : hm_S} {I : hm_I} {J : hm_J} {b : Nat} (hMo : IsM L Sh b) {c : Nat → Nat} {e : Nat → Nat → Nat} {ep lg : Nat} (hWm : WfM (I (b + 1)) c e ep lg) {pm : Nat} (hpm : I b 2 = nI pm) (hp8 : pm ≤ 8) {s0 : Nat} (hs0 : s0 < 8) :
    Ct l yX4_close wsX4_close { frames := 2, cells := 0, slots := 0, locals := 42 } 0 0 D T A [.ref b, .int (nI s0)] (hm D T L A Sh I J) (some (.int ((fX4_close_t I b pm c s0).1))) (hm D T L A Sh ((fX4_close_t I b pm c s0).2) J) := by
  refine Ct.ofW (cc := cX4_close) (maxL := 3) (ret := (some .int)) (by decide) rfl (Nat.le_of_ble_eq_true rfl) ?_
  intro p_ e_ s_ m_ args_ below_ meth_ c_ ls R Qq hR hQ C0 hr hlk hname hM hl
  have hx := C0.1.1
  have hb := C0.1.2.1
  have hS : va_S A s_.heap s_.heap [] := va_S.rf
  have hl : lv_has ls 3 [(0, .ref b), (1, .int (nI s0))] := hl
  refine lv_iload_n hx hb dX4_close_0 rfl (lv_at hl 1 rfl) ?_
  refine mr_callS (As := [.int (nI s0)]) C0 (isStreamM_t (I := I) (J := J) (s0 := s0) (by omega)) (va_cwS 1 C0.1.2.2.2.2 gX4_close_X4_isStream rfl rfl rfl (by decide +kernel) (by rw [hR]; exact ⟨Nat.le_of_ble_eq_true rfl, Nat.le_of_ble_eq_true rfl⟩)) hM hS rfl rfl rfl hl.1 (Nat.le_of_ble_eq_true rfl) dX4_close_1 (by rw [hR]; exact ⟨Nat.zero_le _, Nat.zero_le _⟩) (fun H locs hM hS => ?_)
  refine mr_neB (tgt := 9) C0 dX4_close_4 (by decide) (fun _ => ?_) (fun c1 => absurd c1 (by decide))
  refine lv_aload_n hx hb dX4_close_9 rfl (lv_at hl 0 rfl) ?_
  refine lv_iload_n hx hb dX4_close_10 rfl (lv_at hl 1 rfl) ?_
  refine mr_callV (As := [.int (nI s0)]) C0 (ctX4_isOpen (I := I) (J := J) (b := b) (s0 := s0) hMo (by omega)) (cwV 1 C0.1.2.2.2.2 gX4_close_X4_isOpen rfl rfl rfl (by decide +kernel) (by rw [hR]; exact ⟨Nat.le_of_ble_eq_true rfl, Nat.le_of_ble_eq_true rfl⟩)) hM hMo.1.1 hMo.1.2 rfl rfl hM hS rfl rfl rfl hl.1 (Nat.le_of_ble_eq_true rfl) dX4_close_11 (by rw [hR]; exact ⟨Nat.zero_le _, Nat.zero_le _⟩) (fun H locs hM hS => ?_)
  refine mr_eqB (tgt := 29) C0 dX4_close_14 (by decide) (fun c2 => ?_) (fun c2 => ?_)
  · skip
    refine lv_bipush (v := (-2)) hx hb dX4_close_29 (by decide) ?_
    have eF : ((-2), I) = fX4_close_t I b pm c s0 := by unfold fX4_close_t; rw [if_neg (Bool.eq_false_iff.mp c2)]
    exact mr_iret (v := (-2)) C0 hr hlk hQ hS (by rw [← eF]) (by rw [← eF]; exact hM) (Nat.le_refl _) (Nat.le_refl _) dX4_close_31
  · skip
    refine lv_aload_n hx hb dX4_close_17 rfl (lv_at hl 0 rfl) ?_
    refine mr_getr (r := b + 1) (TT := TX4) (N := 10) C0 uX4_close_X4 hM hMo.1.1 hMo.1.2 rfl 0 (by decide) rfl kX4_close_f7 rfl dX4_close_18 ?_
    refine lv_bipush (v := nI 24) hx hb dX4_close_21 (by decide) ?_
    refine lv_iload_n hx hb dX4_close_23 rfl (lv_at hl 1 rfl) ?_
    refine mr_iaddN (z := 24 + s0) C0 rfl dX4_close_24 ?_
    have hw3 := hWm.1 s0 (by omega)
    have hw3b := hw3.2
    refine mr_ialdN (v := nI (c s0)) C0 hM hMo.2.1.1 hMo.2.1.2 (by decide) (by omega) hw3.1 dX4_close_25 ?_
    refine mr_le0N (x := (c s0)) (tgt := 32) C0 dX4_close_26 (by decide) (by omega) (fun c4 => ?_) (fun c4 => ?_)
    · skip
      refine lv_aload_n hx hb dX4_close_32 rfl (lv_at hl 0 rfl) ?_
      refine mr_callV (As := []) C0 (ctX4_remember (I := I) (J := J) (b := b) hMo hpm (by omega)) (cwV 0 C0.1.2.2.2.2 gX4_close_X4_remember rfl rfl rfl (by decide +kernel) (by rw [hR]; exact ⟨Nat.le_of_ble_eq_true rfl, Nat.le_of_ble_eq_true rfl⟩)) hM hMo.1.1 hMo.1.2 rfl rfl hM hS rfl rfl rfl hl.1 (Nat.le_of_ble_eq_true rfl) dX4_close_33 (by rw [hR]; exact ⟨Nat.zero_le _, Nat.zero_le _⟩) (fun H locs hM hS => ?_)
      refine lv_aload_n hx hb dX4_close_36 rfl (lv_at hl 0 rfl) ?_
      refine mr_getr (r := b + 1) (TT := TX4) (N := 10) C0 uX4_close_X4 hM hMo.1.1 hMo.1.2 rfl 0 (by decide) rfl kX4_close_f7 rfl dX4_close_37 ?_
      refine lv_bipush (v := nI 16) hx hb dX4_close_40 (by decide) ?_
      refine lv_iload_n hx hb dX4_close_42 rfl (lv_at hl 1 rfl) ?_
      refine mr_iaddN (z := 16 + s0) C0 rfl dX4_close_43 ?_
      refine mr_ialdN (v := (fX4_remember I b pm) (b + 1) (16 + s0)) C0 hM hMo.2.1.1 hMo.2.1.2 (by decide) (by omega) rfl dX4_close_44 ?_
      refine lv_istore_n (lv' := [(2, .int ((fX4_remember I b pm) (b + 1) (16 + s0))), (0, .ref b), (1, .int (nI s0))]) hx hb dX4_close_45 rfl hl (by decide) rfl (fun ls hl => ?_)
      refine lv_aload_n hx hb dX4_close_46 rfl (lv_at hl 1 rfl) ?_
      refine mr_getr (r := b + 1) (TT := TX4) (N := 10) C0 uX4_close_X4 hM hMo.1.1 hMo.1.2 rfl 0 (by decide) rfl kX4_close_f7 rfl dX4_close_47 ?_
      refine lv_iconst (v := nI 0) hx hb dX4_close_50 (by decide) ?_
      refine lv_iload_n hx hb dX4_close_51 rfl (lv_at hl 2 rfl) ?_
      refine mr_iaddN (z := 0 + s0) C0 rfl dX4_close_52 ?_
      refine lv_iconst (v := nI 0) hx hb dX4_close_53 (by decide) ?_
      refine mr_iastN C0 hM hS hMo.2.1.1 hMo.2.1.2 (by decide) (by omega) dX4_close_54 (fun H locs hM hS => ?_)
      refine lv_aload_n hx hb dX4_close_55 rfl (lv_at hl 1 rfl) ?_
      refine mr_getr (r := b + 1) (TT := TX4) (N := 10) C0 uX4_close_X4 hM hMo.1.1 hMo.1.2 rfl 0 (by decide) rfl kX4_close_f7 rfl dX4_close_56 ?_
      refine lv_bipush (v := nI 8) hx hb dX4_close_59 (by decide) ?_
      refine lv_iload_n hx hb dX4_close_61 rfl (lv_at hl 2 rfl) ?_
      refine mr_iaddN (z := 8 + s0) C0 rfl dX4_close_62 ?_
      refine lv_iconst (v := nI 0) hx hb dX4_close_63 (by decide) ?_
      refine mr_iastN C0 hM hS hMo.2.1.1 hMo.2.1.2 (by decide) (by omega) dX4_close_64 (fun H locs hM hS => ?_)
      refine lv_aload_n hx hb dX4_close_65 rfl (lv_at hl 1 rfl) ?_
      refine mr_getr (r := b + 1) (TT := TX4) (N := 10) C0 uX4_close_X4 hM hMo.1.1 hMo.1.2 rfl 0 (by decide) rfl kX4_close_f7 rfl dX4_close_66 ?_
      refine lv_bipush (v := nI 16) hx hb dX4_close_69 (by decide) ?_
      refine lv_iload_n hx hb dX4_close_71 rfl (lv_at hl 2 rfl) ?_
      refine mr_iaddN (z := 16 + s0) C0 rfl dX4_close_72 ?_
      refine lv_iconst (v := nI 0) hx hb dX4_close_73 (by decide) ?_
      refine mr_iastN C0 hM hS hMo.2.1.1 hMo.2.1.2 (by decide) (by omega) dX4_close_74 (fun H locs hM hS => ?_)
      refine lv_iload_n hx hb dX4_close_75 rfl (lv_at hl 0 rfl) ?_
      have eF : ((fX4_remember I b pm) (b + 1) (16 + s0), hm_put (hm_put (hm_put (fX4_remember I b pm) (b + 1) (0 + s0) (nI 0)) (b + 1) (8 + s0) (nI 0)) (b + 1) (16 + s0) (nI 0)) = fX4_close_t I b pm c s0 := by unfold fX4_close_t; rw [if_pos c2, if_pos c4]
      exact mr_iret (v := (fX4_remember I b pm) (b + 1) (16 + s0)) C0 hr hlk hQ hS (by rw [← eF]) (by rw [← eF]; exact hM) (Nat.le_refl _) (Nat.le_refl _) dX4_close_76
    · skip
      refine lv_bipush (v := (-2)) hx hb dX4_close_29 (by decide) ?_
      have eF : ((-2), I) = fX4_close_t I b pm c s0 := by unfold fX4_close_t; rw [if_pos c2, if_neg (Nat.ne_of_gt c4)]
      exact mr_iret (v := (-2)) C0 hr hlk hQ hS (by rw [← eF]) (by rw [← eF]; exact hM) (Nat.le_refl _) (Nat.le_refl _) dX4_close_31
set_option maxHeartbeats 4000000 in
set_option maxRecDepth 100000 in
theorem ctX4_setWeight_b {l : Launch} {D : va_G} {T : Nat → ClassId} {L : List Nat} {A : Nat → Prop} {Sh : hm_S} {I : hm_I} {J : hm_J} {b : Nat} (hMo : IsM L Sh b) {s0 w0 : Int32} (hb0 : (fX4_isStream s0 && fX4_isIn w0 (nI 1) (nI 9)) = false) :
    Ct l yX4_setWeight wsX4_setWeight { frames := 2, cells := 0, slots := 0, locals := 42 } 0 0 D T A [.ref b, .int s0, .int w0] (hm D T L A Sh I J) (some (.int (-1))) (hm D T L A Sh I J) := by
  refine Ct.ofW (cc := cX4_setWeight) (maxL := 4) (ret := (some .int)) (by decide) rfl (Nat.le_of_ble_eq_true rfl) ?_
  intro p_ e_ s_ m_ args_ below_ meth_ c_ ls R Qq hR hQ C0 hr hlk hname hM hl
  have hx := C0.1.1
  have hb := C0.1.2.1
  have hS : va_S A s_.heap s_.heap [] := va_S.rf
  have hl : lv_has ls 4 [(0, .ref b), (1, .int s0), (2, .int w0)] := hl
  refine lv_iload_n hx hb dX4_setWeight_0 rfl (lv_at hl 1 rfl) ?_
  refine mr_callS (As := [.int s0]) C0 (ctX4_isStream (I := I) (J := J) (s0 := s0) ) (va_cwS 1 C0.1.2.2.2.2 gX4_setWeight_X4_isStream rfl rfl rfl (by decide +kernel) (by rw [hR]; exact ⟨Nat.le_of_ble_eq_true rfl, Nat.le_of_ble_eq_true rfl⟩)) hM hS rfl rfl rfl hl.1 (Nat.le_of_ble_eq_true rfl) dX4_setWeight_1 (by rw [hR]; exact ⟨Nat.zero_le _, Nat.zero_le _⟩) (fun H locs hM hS => ?_)
  refine mr_eqB (tgt := 17) C0 dX4_setWeight_4 (by decide) (fun c1 => ?_) (fun c1 => ?_)
  · skip
    refine lv_iconst (v := (-1)) hx hb dX4_setWeight_17 (by decide) ?_
    skip
    exact mr_iret (v := (-1)) C0 hr hlk hQ hS rfl hM (Nat.le_refl _) (Nat.le_refl _) dX4_setWeight_18
  · skip
    refine lv_iload_n hx hb dX4_setWeight_7 rfl (lv_at hl 2 rfl) ?_
    refine lv_iconst (v := nI 1) hx hb dX4_setWeight_8 (by decide) ?_
    refine lv_bipush (v := nI 9) hx hb dX4_setWeight_9 (by decide) ?_
    refine mr_callS (As := [.int w0, .int (nI 1), .int (nI 9)]) C0 (ctX4_isIn (I := I) (J := J) (v := w0) (lo := (nI 1)) (up := (nI 9)) ) (va_cwS 3 C0.1.2.2.2.2 gX4_setWeight_X4_isIn rfl rfl rfl (by decide +kernel) (by rw [hR]; exact ⟨Nat.le_of_ble_eq_true rfl, Nat.le_of_ble_eq_true rfl⟩)) hM hS rfl rfl rfl hl.1 (Nat.le_of_ble_eq_true rfl) dX4_setWeight_11 (by rw [hR]; exact ⟨Nat.zero_le _, Nat.zero_le _⟩) (fun H locs hM hS => ?_)
    refine mr_neB (tgt := 19) C0 dX4_setWeight_14 (by decide) (fun c2 => absurd hb0 (by rw [c1, c2]; decide)) (fun c2 => ?_)
    refine lv_iconst (v := (-1)) hx hb dX4_setWeight_17 (by decide) ?_
    skip
    exact mr_iret (v := (-1)) C0 hr hlk hQ hS rfl hM (Nat.le_refl _) (Nat.le_refl _) dX4_setWeight_18
def fX4_setWeight_t (I : hm_I) (b pm s0 : Nat) (w0 : Int32) : Int32 × hm_I :=
  if fX4_isOpen I b s0 = true then ((fX4_remember I b pm) (b + 1) (8 + s0), hm_put (fX4_remember I b pm) (b + 1) (8 + s0) w0) else ((-2), I)
set_option maxHeartbeats 4000000 in
set_option maxRecDepth 100000 in
theorem ctX4_setWeight_t {l : Launch} {D : va_G} {T : Nat → ClassId} {L : List Nat} {A : Nat → Prop} {Sh : hm_S} {I : hm_I} {J : hm_J} {b : Nat} (hMo : IsM L Sh b) {pm : Nat} (hpm : I b 2 = nI pm) (hp8 : pm ≤ 8) {s0 : Nat} {w0 : Int32} (hs0 : s0 < 8) (hw0 : fX4_isIn w0 (nI 1) (nI 9) = true) :
    Ct l yX4_setWeight wsX4_setWeight { frames := 2, cells := 0, slots := 0, locals := 42 } 0 0 D T A [.ref b, .int (nI s0), .int w0] (hm D T L A Sh I J) (some (.int ((fX4_setWeight_t I b pm s0 w0).1))) (hm D T L A Sh ((fX4_setWeight_t I b pm s0 w0).2) J) := by
  refine Ct.ofW (cc := cX4_setWeight) (maxL := 4) (ret := (some .int)) (by decide) rfl (Nat.le_of_ble_eq_true rfl) ?_
  intro p_ e_ s_ m_ args_ below_ meth_ c_ ls R Qq hR hQ C0 hr hlk hname hM hl
  have hx := C0.1.1
  have hb := C0.1.2.1
  have hS : va_S A s_.heap s_.heap [] := va_S.rf
  have hl : lv_has ls 4 [(0, .ref b), (1, .int (nI s0)), (2, .int w0)] := hl
  refine lv_iload_n hx hb dX4_setWeight_0 rfl (lv_at hl 1 rfl) ?_
  refine mr_callS (As := [.int (nI s0)]) C0 (isStreamM_t (I := I) (J := J) (s0 := s0) (by omega)) (va_cwS 1 C0.1.2.2.2.2 gX4_setWeight_X4_isStream rfl rfl rfl (by decide +kernel) (by rw [hR]; exact ⟨Nat.le_of_ble_eq_true rfl, Nat.le_of_ble_eq_true rfl⟩)) hM hS rfl rfl rfl hl.1 (Nat.le_of_ble_eq_true rfl) dX4_setWeight_1 (by rw [hR]; exact ⟨Nat.zero_le _, Nat.zero_le _⟩) (fun H locs hM hS => ?_)
  refine mr_eqB (tgt := 17) C0 dX4_setWeight_4 (by decide) (fun c1 => absurd c1 (by decide)) (fun _ => ?_)
  refine lv_iload_n hx hb dX4_setWeight_7 rfl (lv_at hl 2 rfl) ?_
  refine lv_iconst (v := nI 1) hx hb dX4_setWeight_8 (by decide) ?_
  refine lv_bipush (v := nI 9) hx hb dX4_setWeight_9 (by decide) ?_
  refine mr_callS (As := [.int w0, .int (nI 1), .int (nI 9)]) C0 (ctX4_isIn (I := I) (J := J) (v := w0) (lo := (nI 1)) (up := (nI 9)) ) (va_cwS 3 C0.1.2.2.2.2 gX4_setWeight_X4_isIn rfl rfl rfl (by decide +kernel) (by rw [hR]; exact ⟨Nat.le_of_ble_eq_true rfl, Nat.le_of_ble_eq_true rfl⟩)) hM hS rfl rfl rfl hl.1 (Nat.le_of_ble_eq_true rfl) dX4_setWeight_11 (by rw [hR]; exact ⟨Nat.zero_le _, Nat.zero_le _⟩) (fun H locs hM hS => ?_)
  refine mr_neB (tgt := 19) C0 dX4_setWeight_14 (by decide) (fun c2 => ?_) (fun c2 => absurd c2 (by rw [hw0]; decide))
  refine lv_aload_n hx hb dX4_setWeight_19 rfl (lv_at hl 0 rfl) ?_
  refine lv_iload_n hx hb dX4_setWeight_20 rfl (lv_at hl 1 rfl) ?_
  refine mr_callV (As := [.int (nI s0)]) C0 (ctX4_isOpen (I := I) (J := J) (b := b) (s0 := s0) hMo (by omega)) (cwV 1 C0.1.2.2.2.2 gX4_setWeight_X4_isOpen rfl rfl rfl (by decide +kernel) (by rw [hR]; exact ⟨Nat.le_of_ble_eq_true rfl, Nat.le_of_ble_eq_true rfl⟩)) hM hMo.1.1 hMo.1.2 rfl rfl hM hS rfl rfl rfl hl.1 (Nat.le_of_ble_eq_true rfl) dX4_setWeight_21 (by rw [hR]; exact ⟨Nat.zero_le _, Nat.zero_le _⟩) (fun H locs hM hS => ?_)
  refine mr_neB (tgt := 30) C0 dX4_setWeight_24 (by decide) (fun c3 => ?_) (fun c3 => ?_)
  · skip
    refine lv_aload_n hx hb dX4_setWeight_30 rfl (lv_at hl 0 rfl) ?_
    refine mr_callV (As := []) C0 (ctX4_remember (I := I) (J := J) (b := b) hMo hpm (by omega)) (cwV 0 C0.1.2.2.2.2 gX4_setWeight_X4_remember rfl rfl rfl (by decide +kernel) (by rw [hR]; exact ⟨Nat.le_of_ble_eq_true rfl, Nat.le_of_ble_eq_true rfl⟩)) hM hMo.1.1 hMo.1.2 rfl rfl hM hS rfl rfl rfl hl.1 (Nat.le_of_ble_eq_true rfl) dX4_setWeight_31 (by rw [hR]; exact ⟨Nat.zero_le _, Nat.zero_le _⟩) (fun H locs hM hS => ?_)
    refine lv_aload_n hx hb dX4_setWeight_34 rfl (lv_at hl 0 rfl) ?_
    refine mr_getr (r := b + 1) (TT := TX4) (N := 10) C0 uX4_setWeight_X4 hM hMo.1.1 hMo.1.2 rfl 0 (by decide) rfl kX4_setWeight_f7 rfl dX4_setWeight_35 ?_
    refine lv_bipush (v := nI 8) hx hb dX4_setWeight_38 (by decide) ?_
    refine lv_iload_n hx hb dX4_setWeight_40 rfl (lv_at hl 1 rfl) ?_
    refine mr_iaddN (z := 8 + s0) C0 rfl dX4_setWeight_41 ?_
    refine mr_ialdN (v := (fX4_remember I b pm) (b + 1) (8 + s0)) C0 hM hMo.2.1.1 hMo.2.1.2 (by decide) (by omega) rfl dX4_setWeight_42 ?_
    refine lv_istore_n (lv' := [(3, .int ((fX4_remember I b pm) (b + 1) (8 + s0))), (0, .ref b), (1, .int (nI s0)), (2, .int w0)]) hx hb dX4_setWeight_43 rfl hl (by decide) rfl (fun ls hl => ?_)
    refine lv_aload_n hx hb dX4_setWeight_44 rfl (lv_at hl 1 rfl) ?_
    refine mr_getr (r := b + 1) (TT := TX4) (N := 10) C0 uX4_setWeight_X4 hM hMo.1.1 hMo.1.2 rfl 0 (by decide) rfl kX4_setWeight_f7 rfl dX4_setWeight_45 ?_
    refine lv_bipush (v := nI 8) hx hb dX4_setWeight_48 (by decide) ?_
    refine lv_iload_n hx hb dX4_setWeight_50 rfl (lv_at hl 2 rfl) ?_
    refine mr_iaddN (z := 8 + s0) C0 rfl dX4_setWeight_51 ?_
    refine lv_iload_n hx hb dX4_setWeight_52 rfl (lv_at hl 3 rfl) ?_
    refine mr_iastN C0 hM hS hMo.2.1.1 hMo.2.1.2 (by decide) (by omega) dX4_setWeight_53 (fun H locs hM hS => ?_)
    refine lv_iload_n hx hb dX4_setWeight_54 rfl (lv_at hl 0 rfl) ?_
    have eF : ((fX4_remember I b pm) (b + 1) (8 + s0), hm_put (fX4_remember I b pm) (b + 1) (8 + s0) w0) = fX4_setWeight_t I b pm s0 w0 := by unfold fX4_setWeight_t; rw [if_pos c3]
    exact mr_iret (v := (fX4_remember I b pm) (b + 1) (8 + s0)) C0 hr hlk hQ hS (by rw [← eF]) (by rw [← eF]; exact hM) (Nat.le_refl _) (Nat.le_refl _) dX4_setWeight_55
  · skip
    refine lv_bipush (v := (-2)) hx hb dX4_setWeight_27 (by decide) ?_
    have eF : ((-2), I) = fX4_setWeight_t I b pm s0 w0 := by unfold fX4_setWeight_t; rw [if_neg (Bool.eq_false_iff.mp c3)]
    exact mr_iret (v := (-2)) C0 hr hlk hQ hS (by rw [← eF]) (by rw [← eF]; exact hM) (Nat.le_refl _) (Nat.le_refl _) dX4_setWeight_29
set_option maxHeartbeats 4000000 in
set_option maxRecDepth 100000 in
theorem ctX4_push_b {l : Launch} {D : va_G} {T : Nat → ClassId} {L : List Nat} {A : Nat → Prop} {Sh : hm_S} {I : hm_I} {J : hm_J} {b : Nat} (hMo : IsM L Sh b) {s0 w0 : Int32} (hb0 : (fX4_isStream s0 && fX4_isIn w0 (nI 1) (nI 99)) = false) :
    Ct l yX4_push wsX4_push { frames := 2, cells := 0, slots := 0, locals := 42 } 0 0 D T A [.ref b, .int s0, .int w0] (hm D T L A Sh I J) (some (.int (-1))) (hm D T L A Sh I J) := by
  refine Ct.ofW (cc := cX4_push) (maxL := 4) (ret := (some .int)) (by decide) rfl (Nat.le_of_ble_eq_true rfl) ?_
  intro p_ e_ s_ m_ args_ below_ meth_ c_ ls R Qq hR hQ C0 hr hlk hname hM hl
  have hx := C0.1.1
  have hb := C0.1.2.1
  have hS : va_S A s_.heap s_.heap [] := va_S.rf
  have hl : lv_has ls 4 [(0, .ref b), (1, .int s0), (2, .int w0)] := hl
  refine lv_iload_n hx hb dX4_push_0 rfl (lv_at hl 1 rfl) ?_
  refine mr_callS (As := [.int s0]) C0 (ctX4_isStream (I := I) (J := J) (s0 := s0) ) (va_cwS 1 C0.1.2.2.2.2 gX4_push_X4_isStream rfl rfl rfl (by decide +kernel) (by rw [hR]; exact ⟨Nat.le_of_ble_eq_true rfl, Nat.le_of_ble_eq_true rfl⟩)) hM hS rfl rfl rfl hl.1 (Nat.le_of_ble_eq_true rfl) dX4_push_1 (by rw [hR]; exact ⟨Nat.zero_le _, Nat.zero_le _⟩) (fun H locs hM hS => ?_)
  refine mr_eqB (tgt := 17) C0 dX4_push_4 (by decide) (fun c1 => ?_) (fun c1 => ?_)
  · skip
    refine lv_iconst (v := (-1)) hx hb dX4_push_17 (by decide) ?_
    skip
    exact mr_iret (v := (-1)) C0 hr hlk hQ hS rfl hM (Nat.le_refl _) (Nat.le_refl _) dX4_push_18
  · skip
    refine lv_iload_n hx hb dX4_push_7 rfl (lv_at hl 2 rfl) ?_
    refine lv_iconst (v := nI 1) hx hb dX4_push_8 (by decide) ?_
    refine lv_bipush (v := nI 99) hx hb dX4_push_9 (by decide) ?_
    refine mr_callS (As := [.int w0, .int (nI 1), .int (nI 99)]) C0 (ctX4_isIn (I := I) (J := J) (v := w0) (lo := (nI 1)) (up := (nI 99)) ) (va_cwS 3 C0.1.2.2.2.2 gX4_push_X4_isIn rfl rfl rfl (by decide +kernel) (by rw [hR]; exact ⟨Nat.le_of_ble_eq_true rfl, Nat.le_of_ble_eq_true rfl⟩)) hM hS rfl rfl rfl hl.1 (Nat.le_of_ble_eq_true rfl) dX4_push_11 (by rw [hR]; exact ⟨Nat.zero_le _, Nat.zero_le _⟩) (fun H locs hM hS => ?_)
    refine mr_neB (tgt := 19) C0 dX4_push_14 (by decide) (fun c2 => absurd hb0 (by rw [c1, c2]; decide)) (fun c2 => ?_)
    refine lv_iconst (v := (-1)) hx hb dX4_push_17 (by decide) ?_
    skip
    exact mr_iret (v := (-1)) C0 hr hlk hQ hS rfl hM (Nat.le_refl _) (Nat.le_refl _) dX4_push_18
def fX4_push_t (I : hm_I) (b pm : Nat) (c : Nat → Nat) (s0 : Nat) (w0 : Int32) : Int32 × hm_I :=
  if fX4_isOpen I b s0 = true then if (c s0) = 6 then ((-3), I) else ((((fX4_remember I b pm) (b + 1) 265) + (nI 1)) - (nI 1), hm_put (hm_put (hm_put (hm_put (hm_put (fX4_remember I b pm) (b + 1) (32 + 18 * s0 + 3 * (c s0)) ((fX4_remember I b pm) (b + 1) 265)) (b + 1) (32 + 18 * s0 + 3 * (c s0) + 1) w0) (b + 1) (32 + 18 * s0 + 3 * (c s0) + 2) ((fX4_remember I b pm) (b + 1) 184)) (b + 1) (24 + s0) (nI ((c s0) + 1))) (b + 1) 265 (((fX4_remember I b pm) (b + 1) 265) + (nI 1))) else ((-2), I)
set_option maxHeartbeats 4000000 in
set_option maxRecDepth 100000 in
theorem ctX4_push_t {l : Launch} {D : va_G} {T : Nat → ClassId} {L : List Nat} {A : Nat → Prop} {Sh : hm_S} {I : hm_I} {J : hm_J} {b : Nat} (hMo : IsM L Sh b) {c : Nat → Nat} {e : Nat → Nat → Nat} {ep lg : Nat} (hWm : WfM (I (b + 1)) c e ep lg) {pm : Nat} (hpm : I b 2 = nI pm) (hp8 : pm ≤ 8) {s0 : Nat} {w0 : Int32} (hs0 : s0 < 8) (hw0 : fX4_isIn w0 (nI 1) (nI 99) = true) :
    Ct l yX4_push wsX4_push { frames := 2, cells := 0, slots := 0, locals := 42 } 0 0 D T A [.ref b, .int (nI s0), .int w0] (hm D T L A Sh I J) (some (.int ((fX4_push_t I b pm c s0 w0).1))) (hm D T L A Sh ((fX4_push_t I b pm c s0 w0).2) J) := by
  refine Ct.ofW (cc := cX4_push) (maxL := 4) (ret := (some .int)) (by decide) rfl (Nat.le_of_ble_eq_true rfl) ?_
  intro p_ e_ s_ m_ args_ below_ meth_ c_ ls R Qq hR hQ C0 hr hlk hname hM hl
  have hx := C0.1.1
  have hb := C0.1.2.1
  have hS : va_S A s_.heap s_.heap [] := va_S.rf
  have hl : lv_has ls 4 [(0, .ref b), (1, .int (nI s0)), (2, .int w0)] := hl
  refine lv_iload_n hx hb dX4_push_0 rfl (lv_at hl 1 rfl) ?_
  refine mr_callS (As := [.int (nI s0)]) C0 (isStreamM_t (I := I) (J := J) (s0 := s0) (by omega)) (va_cwS 1 C0.1.2.2.2.2 gX4_push_X4_isStream rfl rfl rfl (by decide +kernel) (by rw [hR]; exact ⟨Nat.le_of_ble_eq_true rfl, Nat.le_of_ble_eq_true rfl⟩)) hM hS rfl rfl rfl hl.1 (Nat.le_of_ble_eq_true rfl) dX4_push_1 (by rw [hR]; exact ⟨Nat.zero_le _, Nat.zero_le _⟩) (fun H locs hM hS => ?_)
  refine mr_eqB (tgt := 17) C0 dX4_push_4 (by decide) (fun c1 => absurd c1 (by decide)) (fun _ => ?_)
  refine lv_iload_n hx hb dX4_push_7 rfl (lv_at hl 2 rfl) ?_
  refine lv_iconst (v := nI 1) hx hb dX4_push_8 (by decide) ?_
  refine lv_bipush (v := nI 99) hx hb dX4_push_9 (by decide) ?_
  refine mr_callS (As := [.int w0, .int (nI 1), .int (nI 99)]) C0 (ctX4_isIn (I := I) (J := J) (v := w0) (lo := (nI 1)) (up := (nI 99)) ) (va_cwS 3 C0.1.2.2.2.2 gX4_push_X4_isIn rfl rfl rfl (by decide +kernel) (by rw [hR]; exact ⟨Nat.le_of_ble_eq_true rfl, Nat.le_of_ble_eq_true rfl⟩)) hM hS rfl rfl rfl hl.1 (Nat.le_of_ble_eq_true rfl) dX4_push_11 (by rw [hR]; exact ⟨Nat.zero_le _, Nat.zero_le _⟩) (fun H locs hM hS => ?_)
  refine mr_neB (tgt := 19) C0 dX4_push_14 (by decide) (fun c2 => ?_) (fun c2 => absurd c2 (by rw [hw0]; decide))
  refine lv_aload_n hx hb dX4_push_19 rfl (lv_at hl 0 rfl) ?_
  refine lv_iload_n hx hb dX4_push_20 rfl (lv_at hl 1 rfl) ?_
  refine mr_callV (As := [.int (nI s0)]) C0 (ctX4_isOpen (I := I) (J := J) (b := b) (s0 := s0) hMo (by omega)) (cwV 1 C0.1.2.2.2.2 gX4_push_X4_isOpen rfl rfl rfl (by decide +kernel) (by rw [hR]; exact ⟨Nat.le_of_ble_eq_true rfl, Nat.le_of_ble_eq_true rfl⟩)) hM hMo.1.1 hMo.1.2 rfl rfl hM hS rfl rfl rfl hl.1 (Nat.le_of_ble_eq_true rfl) dX4_push_21 (by rw [hR]; exact ⟨Nat.zero_le _, Nat.zero_le _⟩) (fun H locs hM hS => ?_)
  refine mr_neB (tgt := 30) C0 dX4_push_24 (by decide) (fun c3 => ?_) (fun c3 => ?_)
  · skip
    refine lv_aload_n hx hb dX4_push_30 rfl (lv_at hl 0 rfl) ?_
    refine mr_getr (r := b + 1) (TT := TX4) (N := 10) C0 uX4_push_X4 hM hMo.1.1 hMo.1.2 rfl 0 (by decide) rfl kX4_push_f7 rfl dX4_push_31 ?_
    refine lv_bipush (v := nI 24) hx hb dX4_push_34 (by decide) ?_
    refine lv_iload_n hx hb dX4_push_36 rfl (lv_at hl 1 rfl) ?_
    refine mr_iaddN (z := 24 + s0) C0 rfl dX4_push_37 ?_
    have hw4 := hWm.1 s0 (by omega)
    have hw4b := hw4.2
    refine mr_ialdN (v := nI (c s0)) C0 hM hMo.2.1.1 hMo.2.1.2 (by decide) (by omega) hw4.1 dX4_push_38 ?_
    refine lv_bipush (v := nI 6) hx hb dX4_push_39 (by decide) ?_
    refine mr_neN (x := (c s0)) (y := 6) (tgt := 47) C0 dX4_push_41 (by decide) (by omega) (by omega) (fun c5 => ?_) (fun c5 => ?_)
    · skip
      refine lv_aload_n hx hb dX4_push_47 rfl (lv_at hl 0 rfl) ?_
      refine mr_callV (As := []) C0 (ctX4_remember (I := I) (J := J) (b := b) hMo hpm (by omega)) (cwV 0 C0.1.2.2.2.2 gX4_push_X4_remember rfl rfl rfl (by decide +kernel) (by rw [hR]; exact ⟨Nat.le_of_ble_eq_true rfl, Nat.le_of_ble_eq_true rfl⟩)) hM hMo.1.1 hMo.1.2 rfl rfl hM hS rfl rfl rfl hl.1 (Nat.le_of_ble_eq_true rfl) dX4_push_48 (by rw [hR]; exact ⟨Nat.zero_le _, Nat.zero_le _⟩) (fun H locs hM hS => ?_)
      refine lv_bipush (v := nI 32) hx hb dX4_push_51 (by decide) ?_
      refine lv_bipush (v := nI 18) hx hb dX4_push_53 (by decide) ?_
      refine lv_iload_n hx hb dX4_push_55 rfl (lv_at hl 1 rfl) ?_
      refine mr_imulN (z := 18 * s0) C0 rfl dX4_push_56 ?_
      refine mr_iaddN (z := 32 + 18 * s0) C0 rfl dX4_push_57 ?_
      refine lv_iconst (v := nI 3) hx hb dX4_push_58 (by decide) ?_
      refine lv_aload_n hx hb dX4_push_59 rfl (lv_at hl 0 rfl) ?_
      refine mr_getr (r := b + 1) (TT := TX4) (N := 10) C0 uX4_push_X4 hM hMo.1.1 hMo.1.2 rfl 0 (by decide) rfl kX4_push_f7 rfl dX4_push_60 ?_
      refine lv_bipush (v := nI 24) hx hb dX4_push_63 (by decide) ?_
      refine lv_iload_n hx hb dX4_push_65 rfl (lv_at hl 1 rfl) ?_
      refine mr_iaddN (z := 24 + s0) C0 rfl dX4_push_66 ?_
      refine mr_ialdN (v := nI (c s0)) C0 hM hMo.2.1.1 hMo.2.1.2 (by decide) (by omega) ((congrFun (fX4_remember_ne (by omega) (by omega)) _).trans hw4.1) dX4_push_67 ?_
      refine mr_imulN (z := 3 * (c s0)) C0 rfl dX4_push_68 ?_
      refine mr_iaddN (z := 32 + 18 * s0 + 3 * (c s0)) C0 rfl dX4_push_69 ?_
      refine lv_istore_n (lv' := [(3, .int (nI (32 + 18 * s0 + 3 * (c s0)))), (0, .ref b), (1, .int (nI s0)), (2, .int w0)]) hx hb dX4_push_70 rfl hl (by decide) rfl (fun ls hl => ?_)
      refine lv_aload_n hx hb dX4_push_71 rfl (lv_at hl 1 rfl) ?_
      refine mr_getr (r := b + 1) (TT := TX4) (N := 10) C0 uX4_push_X4 hM hMo.1.1 hMo.1.2 rfl 0 (by decide) rfl kX4_push_f7 rfl dX4_push_72 ?_
      refine lv_iload_n hx hb dX4_push_75 rfl (lv_at hl 0 rfl) ?_
      refine lv_aload_n hx hb dX4_push_76 rfl (lv_at hl 1 rfl) ?_
      refine mr_getr (r := b + 1) (TT := TX4) (N := 10) C0 uX4_push_X4 hM hMo.1.1 hMo.1.2 rfl 0 (by decide) rfl kX4_push_f7 rfl dX4_push_77 ?_
      refine lv_sipush (v := nI 265) hx hb dX4_push_80 (by decide) ?_
      refine mr_ialdN (v := (fX4_remember I b pm) (b + 1) 265) C0 hM hMo.2.1.1 hMo.2.1.2 (by decide) (by decide) rfl dX4_push_83 ?_
      refine mr_iastN C0 hM hS hMo.2.1.1 hMo.2.1.2 (by decide) (by omega) dX4_push_84 (fun H locs hM hS => ?_)
      refine lv_aload_n hx hb dX4_push_85 rfl (lv_at hl 1 rfl) ?_
      refine mr_getr (r := b + 1) (TT := TX4) (N := 10) C0 uX4_push_X4 hM hMo.1.1 hMo.1.2 rfl 0 (by decide) rfl kX4_push_f7 rfl dX4_push_86 ?_
      refine lv_iload_n hx hb dX4_push_89 rfl (lv_at hl 0 rfl) ?_
      refine lv_iconst (v := nI 1) hx hb dX4_push_90 (by decide) ?_
      refine mr_iaddN (z := 32 + 18 * s0 + 3 * (c s0) + 1) C0 rfl dX4_push_91 ?_
      refine lv_iload_n hx hb dX4_push_92 rfl (lv_at hl 3 rfl) ?_
      refine mr_iastN C0 hM hS hMo.2.1.1 hMo.2.1.2 (by decide) (by omega) dX4_push_93 (fun H locs hM hS => ?_)
      refine lv_aload_n hx hb dX4_push_94 rfl (lv_at hl 1 rfl) ?_
      refine mr_getr (r := b + 1) (TT := TX4) (N := 10) C0 uX4_push_X4 hM hMo.1.1 hMo.1.2 rfl 0 (by decide) rfl kX4_push_f7 rfl dX4_push_95 ?_
      refine lv_iload_n hx hb dX4_push_98 rfl (lv_at hl 0 rfl) ?_
      refine lv_iconst (v := nI 2) hx hb dX4_push_99 (by decide) ?_
      refine mr_iaddN (z := 32 + 18 * s0 + 3 * (c s0) + 2) C0 rfl dX4_push_100 ?_
      refine lv_aload_n hx hb dX4_push_101 rfl (lv_at hl 1 rfl) ?_
      refine mr_getr (r := b + 1) (TT := TX4) (N := 10) C0 uX4_push_X4 hM hMo.1.1 hMo.1.2 rfl 0 (by decide) rfl kX4_push_f7 rfl dX4_push_102 ?_
      refine lv_sipush (v := nI 184) hx hb dX4_push_105 (by decide) ?_
      refine mr_ialdN (v := (fX4_remember I b pm) (b + 1) 184) C0 hM hMo.2.1.1 hMo.2.1.2 (by decide) (by decide) ((hm_put_get (by omega)).trans (hm_put_get (by omega))) dX4_push_108 ?_
      refine mr_iastN C0 hM hS hMo.2.1.1 hMo.2.1.2 (by decide) (by omega) dX4_push_109 (fun H locs hM hS => ?_)
      refine lv_aload_n hx hb dX4_push_110 rfl (lv_at hl 1 rfl) ?_
      refine mr_getr (r := b + 1) (TT := TX4) (N := 10) C0 uX4_push_X4 hM hMo.1.1 hMo.1.2 rfl 0 (by decide) rfl kX4_push_f7 rfl dX4_push_111 ?_
      refine lv_bipush (v := nI 24) hx hb dX4_push_114 (by decide) ?_
      refine lv_iload_n hx hb dX4_push_116 rfl (lv_at hl 2 rfl) ?_
      refine mr_iaddN (z := 24 + s0) C0 rfl dX4_push_117 ?_
      refine lv_dup2_11 hx hb dX4_push_118 rfl rfl ?_
      refine mr_ialdN (v := nI (c s0)) C0 hM hMo.2.1.1 hMo.2.1.2 (by decide) (by omega) ((hm_put_get (by omega)).trans ((hm_put_get (by omega)).trans ((hm_put_get (by omega)).trans ((congrFun (fX4_remember_ne (by omega) (by omega)) _).trans hw4.1)))) dX4_push_119 ?_
      refine lv_iconst (v := nI 1) hx hb dX4_push_120 (by decide) ?_
      refine mr_iaddN (z := (c s0) + 1) C0 rfl dX4_push_121 ?_
      refine mr_iastN C0 hM hS hMo.2.1.1 hMo.2.1.2 (by decide) (by omega) dX4_push_122 (fun H locs hM hS => ?_)
      refine lv_aload_n hx hb dX4_push_123 rfl (lv_at hl 1 rfl) ?_
      refine mr_getr (r := b + 1) (TT := TX4) (N := 10) C0 uX4_push_X4 hM hMo.1.1 hMo.1.2 rfl 0 (by decide) rfl kX4_push_f7 rfl dX4_push_124 ?_
      refine lv_sipush (v := nI 265) hx hb dX4_push_127 (by decide) ?_
      refine lv_dup2_11 hx hb dX4_push_130 rfl rfl ?_
      refine mr_ialdN (v := (fX4_remember I b pm) (b + 1) 265) C0 hM hMo.2.1.1 hMo.2.1.2 (by decide) (by decide) ((hm_put_get (by omega)).trans ((hm_put_get (by omega)).trans ((hm_put_get (by omega)).trans (hm_put_get (by omega))))) dX4_push_131 ?_
      refine lv_iconst (v := nI 1) hx hb dX4_push_132 (by decide) ?_
      refine lv_iadd hx hb dX4_push_133 ?_
      refine mr_iastN C0 hM hS hMo.2.1.1 hMo.2.1.2 (by decide) (by decide) dX4_push_134 (fun H locs hM hS => ?_)
      refine lv_aload_n hx hb dX4_push_135 rfl (lv_at hl 1 rfl) ?_
      refine mr_getr (r := b + 1) (TT := TX4) (N := 10) C0 uX4_push_X4 hM hMo.1.1 hMo.1.2 rfl 0 (by decide) rfl kX4_push_f7 rfl dX4_push_136 ?_
      refine lv_sipush (v := nI 265) hx hb dX4_push_139 (by decide) ?_
      refine mr_ialdN (v := ((fX4_remember I b pm) (b + 1) 265) + (nI 1)) C0 hM hMo.2.1.1 hMo.2.1.2 (by decide) (by decide) (hm_put_at _ _ _ _) dX4_push_142 ?_
      refine lv_iconst (v := nI 1) hx hb dX4_push_143 (by decide) ?_
      refine lv_isub hx hb dX4_push_144 ?_
      have eF : ((((fX4_remember I b pm) (b + 1) 265) + (nI 1)) - (nI 1), hm_put (hm_put (hm_put (hm_put (hm_put (fX4_remember I b pm) (b + 1) (32 + 18 * s0 + 3 * (c s0)) ((fX4_remember I b pm) (b + 1) 265)) (b + 1) (32 + 18 * s0 + 3 * (c s0) + 1) w0) (b + 1) (32 + 18 * s0 + 3 * (c s0) + 2) ((fX4_remember I b pm) (b + 1) 184)) (b + 1) (24 + s0) (nI ((c s0) + 1))) (b + 1) 265 (((fX4_remember I b pm) (b + 1) 265) + (nI 1))) = fX4_push_t I b pm c s0 w0 := by unfold fX4_push_t; rw [if_pos c3, if_neg c5]
      exact mr_iret (v := (((fX4_remember I b pm) (b + 1) 265) + (nI 1)) - (nI 1)) C0 hr hlk hQ hS (by rw [← eF]) (by rw [← eF]; exact hM) (Nat.le_refl _) (Nat.le_refl _) dX4_push_145
    · skip
      refine lv_bipush (v := (-3)) hx hb dX4_push_44 (by decide) ?_
      have eF : ((-3), I) = fX4_push_t I b pm c s0 w0 := by unfold fX4_push_t; rw [if_pos c3, if_pos c5]
      exact mr_iret (v := (-3)) C0 hr hlk hQ hS (by rw [← eF]) (by rw [← eF]; exact hM) (Nat.le_refl _) (Nat.le_refl _) dX4_push_46
  · skip
    refine lv_bipush (v := (-2)) hx hb dX4_push_27 (by decide) ?_
    have eF : ((-2), I) = fX4_push_t I b pm c s0 w0 := by unfold fX4_push_t; rw [if_neg (Bool.eq_false_iff.mp c3)]
    exact mr_iret (v := (-2)) C0 hr hlk hQ hS (by rw [← eF]) (by rw [← eF]; exact hM) (Nat.le_refl _) (Nat.le_refl _) dX4_push_29
set_option maxHeartbeats 4000000 in
set_option maxRecDepth 100000 in
theorem ctX4_edge_b {l : Launch} {D : va_G} {T : Nat → ClassId} {L : List Nat} {A : Nat → Prop} {Sh : hm_S} {I : hm_I} {J : hm_J} {b : Nat} (hMo : IsM L Sh b) {a0 b0 w0 : Int32} (hb0 : fX4_isStream a0 = true → fX4_isStream b0 = true → ¬ a0 = b0 → fX4_isIn w0 (nI 0) (nI 1) = false) :
    Ct l yX4_edge wsX4_edge { frames := 2, cells := 0, slots := 0, locals := 42 } 0 0 D T A [.ref b, .int a0, .int b0, .int w0] (hm D T L A Sh I J) (some (.int (-1))) (hm D T L A Sh I J) := by
  refine Ct.ofW (cc := cX4_edge) (maxL := 5) (ret := (some .int)) (by decide) rfl (Nat.le_of_ble_eq_true rfl) ?_
  intro p_ e_ s_ m_ args_ below_ meth_ c_ ls R Qq hR hQ C0 hr hlk hname hM hl
  have hx := C0.1.1
  have hb := C0.1.2.1
  have hS : va_S A s_.heap s_.heap [] := va_S.rf
  have hl : lv_has ls 5 [(0, .ref b), (1, .int a0), (2, .int b0), (3, .int w0)] := hl
  refine lv_iload_n hx hb dX4_edge_0 rfl (lv_at hl 1 rfl) ?_
  refine mr_callS (As := [.int a0]) C0 (ctX4_isStream (I := I) (J := J) (s0 := a0) ) (va_cwS 1 C0.1.2.2.2.2 gX4_edge_X4_isStream rfl rfl rfl (by decide +kernel) (by rw [hR]; exact ⟨Nat.le_of_ble_eq_true rfl, Nat.le_of_ble_eq_true rfl⟩)) hM hS rfl rfl rfl hl.1 (Nat.le_of_ble_eq_true rfl) dX4_edge_1 (by rw [hR]; exact ⟨Nat.zero_le _, Nat.zero_le _⟩) (fun H locs hM hS => ?_)
  refine mr_eqB (tgt := 28) C0 dX4_edge_4 (by decide) (fun c1 => ?_) (fun c1 => ?_)
  · skip
    refine lv_iconst (v := (-1)) hx hb dX4_edge_28 (by decide) ?_
    skip
    exact mr_iret (v := (-1)) C0 hr hlk hQ hS rfl hM (Nat.le_refl _) (Nat.le_refl _) dX4_edge_29
  · skip
    refine lv_iload_n hx hb dX4_edge_7 rfl (lv_at hl 2 rfl) ?_
    refine mr_callS (As := [.int b0]) C0 (ctX4_isStream (I := I) (J := J) (s0 := b0) ) (va_cwS 1 C0.1.2.2.2.2 gX4_edge_X4_isStream rfl rfl rfl (by decide +kernel) (by rw [hR]; exact ⟨Nat.le_of_ble_eq_true rfl, Nat.le_of_ble_eq_true rfl⟩)) hM hS rfl rfl rfl hl.1 (Nat.le_of_ble_eq_true rfl) dX4_edge_8 (by rw [hR]; exact ⟨Nat.zero_le _, Nat.zero_le _⟩) (fun H locs hM hS => ?_)
    refine mr_eqB (tgt := 28) C0 dX4_edge_11 (by decide) (fun c2 => ?_) (fun c2 => ?_)
    · skip
      refine lv_iconst (v := (-1)) hx hb dX4_edge_28 (by decide) ?_
      skip
      exact mr_iret (v := (-1)) C0 hr hlk hQ hS rfl hM (Nat.le_refl _) (Nat.le_refl _) dX4_edge_29
    · skip
      refine lv_iload_n hx hb dX4_edge_14 rfl (lv_at hl 1 rfl) ?_
      refine lv_iload_n hx hb dX4_edge_15 rfl (lv_at hl 2 rfl) ?_
      refine lv_icmp_eq (tgt := 28) hx hb dX4_edge_16 (by decide) (fun c3 => ?_) (fun c3 => ?_)
      · skip
        refine lv_iconst (v := (-1)) hx hb dX4_edge_28 (by decide) ?_
        skip
        exact mr_iret (v := (-1)) C0 hr hlk hQ hS rfl hM (Nat.le_refl _) (Nat.le_refl _) dX4_edge_29
      · skip
        refine lv_iload_n hx hb dX4_edge_19 rfl (lv_at hl 3 rfl) ?_
        refine lv_iconst (v := nI 0) hx hb dX4_edge_20 (by decide) ?_
        refine lv_iconst (v := nI 1) hx hb dX4_edge_21 (by decide) ?_
        refine mr_callS (As := [.int w0, .int (nI 0), .int (nI 1)]) C0 (ctX4_isIn (I := I) (J := J) (v := w0) (lo := (nI 0)) (up := (nI 1)) ) (va_cwS 3 C0.1.2.2.2.2 gX4_edge_X4_isIn rfl rfl rfl (by decide +kernel) (by rw [hR]; exact ⟨Nat.le_of_ble_eq_true rfl, Nat.le_of_ble_eq_true rfl⟩)) hM hS rfl rfl rfl hl.1 (Nat.le_of_ble_eq_true rfl) dX4_edge_22 (by rw [hR]; exact ⟨Nat.zero_le _, Nat.zero_le _⟩) (fun H locs hM hS => ?_)
        refine mr_neB (tgt := 30) C0 dX4_edge_25 (by decide) (fun c4 => absurd (hb0 c1 c2 c3) (by rw [c4]; decide)) (fun c4 => ?_)
        refine lv_iconst (v := (-1)) hx hb dX4_edge_28 (by decide) ?_
        skip
        exact mr_iret (v := (-1)) C0 hr hlk hQ hS rfl hM (Nat.le_refl _) (Nat.le_refl _) dX4_edge_29
def fX4_edge_t0 (I : hm_I) (b pm a0 b0 : Nat) : Int32 × hm_I :=
  if fX4_has ((fX4_remember (fX4_layAfter I b 176) b pm) (b + 1) (176 + a0)) (nI b0) = true then (nI 1, hm_put (fX4_remember (fX4_layAfter I b 176) b pm) (b + 1) (176 + a0) (((fX4_remember (fX4_layAfter I b 176) b pm) (b + 1) (176 + a0)) &&& (((nI 1) <<< ((nI b0) &&& 31)) ^^^ (-1)))) else (nI 0, hm_put (fX4_remember (fX4_layAfter I b 176) b pm) (b + 1) (176 + a0) (((fX4_remember (fX4_layAfter I b 176) b pm) (b + 1) (176 + a0)) &&& (((nI 1) <<< ((nI b0) &&& 31)) ^^^ (-1))))
set_option maxHeartbeats 4000000 in
set_option maxRecDepth 100000 in
theorem ctX4_edge_t0 {l : Launch} {D : va_G} {T : Nat → ClassId} {L : List Nat} {A : Nat → Prop} {Sh : hm_S} {I : hm_I} {J : hm_J} {b : Nat} (hMo : IsM L Sh b) {pm : Nat} (hpm : I b 2 = nI pm) (hp8 : pm ≤ 8) {a0 b0 : Nat} (ha0 : a0 < 8) (hb0 : b0 < 8) (hab : a0 ≠ b0) :
    Ct l yX4_edge wsX4_edge { frames := 2, cells := 0, slots := 0, locals := 44 } 0 0 D T A [.ref b, .int (nI a0), .int (nI b0), .int (nI 0)] (hm D T L A Sh I J) (some (.int ((fX4_edge_t0 I b pm a0 b0).1))) (hm D T L A Sh ((fX4_edge_t0 I b pm a0 b0).2) J) := by
  refine Ct.ofW (cc := cX4_edge) (maxL := 5) (ret := (some .int)) (by decide) rfl (Nat.le_of_ble_eq_true rfl) ?_
  intro p_ e_ s_ m_ args_ below_ meth_ c_ ls R Qq hR hQ C0 hr hlk hname hM hl
  have hx := C0.1.1
  have hb := C0.1.2.1
  have hS : va_S A s_.heap s_.heap [] := va_S.rf
  have hl : lv_has ls 5 [(0, .ref b), (1, .int (nI a0)), (2, .int (nI b0)), (3, .int (nI 0))] := hl
  refine lv_iload_n hx hb dX4_edge_0 rfl (lv_at hl 1 rfl) ?_
  refine mr_callS (As := [.int (nI a0)]) C0 (isStreamM_t (I := I) (J := J) (s0 := a0) (by omega)) (va_cwS 1 C0.1.2.2.2.2 gX4_edge_X4_isStream rfl rfl rfl (by decide +kernel) (by rw [hR]; exact ⟨Nat.le_of_ble_eq_true rfl, Nat.le_of_ble_eq_true rfl⟩)) hM hS rfl rfl rfl hl.1 (Nat.le_of_ble_eq_true rfl) dX4_edge_1 (by rw [hR]; exact ⟨Nat.zero_le _, Nat.zero_le _⟩) (fun H locs hM hS => ?_)
  refine mr_eqB (tgt := 28) C0 dX4_edge_4 (by decide) (fun c1 => absurd c1 (by decide)) (fun _ => ?_)
  refine lv_iload_n hx hb dX4_edge_7 rfl (lv_at hl 2 rfl) ?_
  refine mr_callS (As := [.int (nI b0)]) C0 (isStreamM_t (I := I) (J := J) (s0 := b0) (by omega)) (va_cwS 1 C0.1.2.2.2.2 gX4_edge_X4_isStream rfl rfl rfl (by decide +kernel) (by rw [hR]; exact ⟨Nat.le_of_ble_eq_true rfl, Nat.le_of_ble_eq_true rfl⟩)) hM hS rfl rfl rfl hl.1 (Nat.le_of_ble_eq_true rfl) dX4_edge_8 (by rw [hR]; exact ⟨Nat.zero_le _, Nat.zero_le _⟩) (fun H locs hM hS => ?_)
  refine mr_eqB (tgt := 28) C0 dX4_edge_11 (by decide) (fun c2 => absurd c2 (by decide)) (fun _ => ?_)
  refine lv_iload_n hx hb dX4_edge_14 rfl (lv_at hl 1 rfl) ?_
  refine lv_iload_n hx hb dX4_edge_15 rfl (lv_at hl 2 rfl) ?_
  refine mr_eqN (x := a0) (y := b0) (tgt := 28) C0 dX4_edge_16 (by decide) (by omega) (by omega) (fun c3 => absurd c3 hab) (fun c3 => ?_)
  refine lv_iload_n hx hb dX4_edge_19 rfl (lv_at hl 3 rfl) ?_
  refine lv_iconst (v := nI 0) hx hb dX4_edge_20 (by decide) ?_
  refine lv_iconst (v := nI 1) hx hb dX4_edge_21 (by decide) ?_
  refine mr_callS (As := [.int (nI 0), .int (nI 0), .int (nI 1)]) C0 (ctX4_isIn (I := I) (J := J) (v := (nI 0)) (lo := (nI 0)) (up := (nI 1)) ) (va_cwS 3 C0.1.2.2.2.2 gX4_edge_X4_isIn rfl rfl rfl (by decide +kernel) (by rw [hR]; exact ⟨Nat.le_of_ble_eq_true rfl, Nat.le_of_ble_eq_true rfl⟩)) hM hS rfl rfl rfl hl.1 (Nat.le_of_ble_eq_true rfl) dX4_edge_22 (by rw [hR]; exact ⟨Nat.zero_le _, Nat.zero_le _⟩) (fun H locs hM hS => ?_)
  refine mr_neB (tgt := 30) C0 dX4_edge_25 (by decide) (fun c4 => ?_) (fun c4 => absurd c4 (by decide))
  refine lv_aload_n hx hb dX4_edge_30 rfl (lv_at hl 0 rfl) ?_
  refine lv_sipush (v := nI 176) hx hb dX4_edge_31 (by decide) ?_
  refine mr_callV (As := [.int (nI 176)]) C0 (ctX4_layAfter (I := I) (J := J) (b := b) (o := 176) hMo (by omega)) (cwV 1 C0.1.2.2.2.2 gX4_edge_X4_layAfter rfl rfl rfl (by decide +kernel) (by rw [hR]; exact ⟨Nat.le_of_ble_eq_true rfl, Nat.le_of_ble_eq_true rfl⟩)) hM hMo.1.1 hMo.1.2 rfl rfl hM hS rfl rfl rfl hl.1 (Nat.le_of_ble_eq_true rfl) dX4_edge_34 (by rw [hR]; exact ⟨Nat.zero_le _, Nat.zero_le _⟩) (fun H locs hM hS => ?_)
  refine lv_iload_n hx hb dX4_edge_37 rfl (lv_at hl 3 rfl) ?_
  refine lv_iconst (v := nI 1) hx hb dX4_edge_38 (by decide) ?_
  refine mr_neN (x := 0) (y := 1) (tgt := 58) C0 dX4_edge_39 (by decide) (by decide) (by decide) (fun _ => ?_) (fun c5 => absurd c5 (by decide))
  refine lv_aload_n hx hb dX4_edge_58 rfl (lv_at hl 0 rfl) ?_
  refine mr_callV (As := []) C0 (ctX4_remember (I := (fX4_layAfter I b 176)) (J := J) (b := b) hMo ((congrFun (fX4_layAfter_ne (by omega)) _).trans hpm) (by omega)) (cwV 0 C0.1.2.2.2.2 gX4_edge_X4_remember rfl rfl rfl (by decide +kernel) (by rw [hR]; exact ⟨Nat.le_of_ble_eq_true rfl, Nat.le_of_ble_eq_true rfl⟩)) hM hMo.1.1 hMo.1.2 rfl rfl hM hS rfl rfl rfl hl.1 (Nat.le_of_ble_eq_true rfl) dX4_edge_59 (by rw [hR]; exact ⟨Nat.zero_le _, Nat.zero_le _⟩) (fun H locs hM hS => ?_)
  refine lv_aload_n hx hb dX4_edge_62 rfl (lv_at hl 0 rfl) ?_
  refine mr_getr (r := b + 1) (TT := TX4) (N := 10) C0 uX4_edge_X4 hM hMo.1.1 hMo.1.2 rfl 0 (by decide) rfl kX4_edge_f7 rfl dX4_edge_63 ?_
  refine lv_sipush (v := nI 176) hx hb dX4_edge_66 (by decide) ?_
  refine lv_iload_n hx hb dX4_edge_69 rfl (lv_at hl 1 rfl) ?_
  refine mr_iaddN (z := 176 + a0) C0 rfl dX4_edge_70 ?_
  refine mr_ialdN (v := (fX4_remember (fX4_layAfter I b 176) b pm) (b + 1) (176 + a0)) C0 hM hMo.2.1.1 hMo.2.1.2 (by decide) (by omega) rfl dX4_edge_71 ?_
  refine lv_iload_n hx hb dX4_edge_72 rfl (lv_at hl 2 rfl) ?_
  refine mr_callS (As := [.int ((fX4_remember (fX4_layAfter I b 176) b pm) (b + 1) (176 + a0)), .int (nI b0)]) C0 (ctX4_has (I := (fX4_remember (fX4_layAfter I b 176) b pm)) (J := J) (u := ((fX4_remember (fX4_layAfter I b 176) b pm) (b + 1) (176 + a0))) (s0 := (nI b0)) ) (va_cwS 2 C0.1.2.2.2.2 gX4_edge_X4_has rfl rfl rfl (by decide +kernel) (by rw [hR]; exact ⟨Nat.le_of_ble_eq_true rfl, Nat.le_of_ble_eq_true rfl⟩)) hM hS rfl rfl rfl hl.1 (Nat.le_of_ble_eq_true rfl) dX4_edge_73 (by rw [hR]; exact ⟨Nat.zero_le _, Nat.zero_le _⟩) (fun H locs hM hS => ?_)
  refine mr_eqB (tgt := 83) C0 dX4_edge_76 (by decide) (fun c6 => ?_) (fun c6 => ?_)
  · skip
    refine lv_iconst (v := nI 0) hx hb dX4_edge_83 (by decide) ?_
    refine lv_istore (lv' := [(4, .int (nI 0)), (0, .ref b), (1, .int (nI a0)), (2, .int (nI b0)), (3, .int (nI 0))]) hx hb dX4_edge_84 hl (by decide) rfl (fun ls hl => ?_)
    refine lv_aload_n hx hb dX4_edge_86 rfl (lv_at hl 1 rfl) ?_
    refine mr_getr (r := b + 1) (TT := TX4) (N := 10) C0 uX4_edge_X4 hM hMo.1.1 hMo.1.2 rfl 0 (by decide) rfl kX4_edge_f7 rfl dX4_edge_87 ?_
    refine lv_sipush (v := nI 176) hx hb dX4_edge_90 (by decide) ?_
    refine lv_iload_n hx hb dX4_edge_93 rfl (lv_at hl 2 rfl) ?_
    refine mr_iaddN (z := 176 + a0) C0 rfl dX4_edge_94 ?_
    refine lv_iload_n hx hb dX4_edge_95 rfl (lv_at hl 4 rfl) ?_
    refine lv_iconst (v := nI 1) hx hb dX4_edge_96 (by decide) ?_
    refine mr_neN (x := 0) (y := 1) (tgt := 117) C0 dX4_edge_97 (by decide) (by decide) (by decide) (fun _ => ?_) (fun c7 => absurd c7 (by decide))
    refine lv_aload_n hx hb dX4_edge_117 rfl (lv_at hl 1 rfl) ?_
    refine mr_getr (r := b + 1) (TT := TX4) (N := 10) C0 uX4_edge_X4 hM hMo.1.1 hMo.1.2 rfl 0 (by decide) rfl kX4_edge_f7 rfl dX4_edge_118 ?_
    refine lv_sipush (v := nI 176) hx hb dX4_edge_121 (by decide) ?_
    refine lv_iload_n hx hb dX4_edge_124 rfl (lv_at hl 2 rfl) ?_
    refine mr_iaddN (z := 176 + a0) C0 rfl dX4_edge_125 ?_
    refine mr_ialdN (v := (fX4_remember (fX4_layAfter I b 176) b pm) (b + 1) (176 + a0)) C0 hM hMo.2.1.1 hMo.2.1.2 (by decide) (by omega) rfl dX4_edge_126 ?_
    refine lv_iconst (v := nI 1) hx hb dX4_edge_127 (by decide) ?_
    refine lv_iload_n hx hb dX4_edge_128 rfl (lv_at hl 3 rfl) ?_
    refine lv_ishl hx hb dX4_edge_129 ?_
    refine lv_iconst (v := (-1)) hx hb dX4_edge_130 (by decide) ?_
    refine lv_ixor hx hb dX4_edge_131 ?_
    refine lv_iand hx hb dX4_edge_132 ?_
    refine mr_iastN C0 hM hS hMo.2.1.1 hMo.2.1.2 (by decide) (by omega) dX4_edge_133 (fun H locs hM hS => ?_)
    refine lv_iload hx hb dX4_edge_134 (lv_at hl 0 rfl) ?_
    have eF : (nI 0, hm_put (fX4_remember (fX4_layAfter I b 176) b pm) (b + 1) (176 + a0) (((fX4_remember (fX4_layAfter I b 176) b pm) (b + 1) (176 + a0)) &&& (((nI 1) <<< ((nI b0) &&& 31)) ^^^ (-1)))) = fX4_edge_t0 I b pm a0 b0 := by unfold fX4_edge_t0; rw [if_neg (Bool.eq_false_iff.mp c6)]
    exact mr_iret (v := nI 0) C0 hr hlk hQ hS (by rw [← eF]) (by rw [← eF]; exact hM) (Nat.le_refl _) (Nat.le_refl _) dX4_edge_136
  · skip
    refine lv_iconst (v := nI 1) hx hb dX4_edge_79 (by decide) ?_
    refine lv_goto (tgt := 84) hx hb dX4_edge_80 (by decide) ?_
    refine lv_istore (lv' := [(4, .int (nI 1)), (0, .ref b), (1, .int (nI a0)), (2, .int (nI b0)), (3, .int (nI 0))]) hx hb dX4_edge_84 hl (by decide) rfl (fun ls hl => ?_)
    refine lv_aload_n hx hb dX4_edge_86 rfl (lv_at hl 1 rfl) ?_
    refine mr_getr (r := b + 1) (TT := TX4) (N := 10) C0 uX4_edge_X4 hM hMo.1.1 hMo.1.2 rfl 0 (by decide) rfl kX4_edge_f7 rfl dX4_edge_87 ?_
    refine lv_sipush (v := nI 176) hx hb dX4_edge_90 (by decide) ?_
    refine lv_iload_n hx hb dX4_edge_93 rfl (lv_at hl 2 rfl) ?_
    refine mr_iaddN (z := 176 + a0) C0 rfl dX4_edge_94 ?_
    refine lv_iload_n hx hb dX4_edge_95 rfl (lv_at hl 4 rfl) ?_
    refine lv_iconst (v := nI 1) hx hb dX4_edge_96 (by decide) ?_
    refine mr_neN (x := 0) (y := 1) (tgt := 117) C0 dX4_edge_97 (by decide) (by decide) (by decide) (fun _ => ?_) (fun c8 => absurd c8 (by decide))
    refine lv_aload_n hx hb dX4_edge_117 rfl (lv_at hl 1 rfl) ?_
    refine mr_getr (r := b + 1) (TT := TX4) (N := 10) C0 uX4_edge_X4 hM hMo.1.1 hMo.1.2 rfl 0 (by decide) rfl kX4_edge_f7 rfl dX4_edge_118 ?_
    refine lv_sipush (v := nI 176) hx hb dX4_edge_121 (by decide) ?_
    refine lv_iload_n hx hb dX4_edge_124 rfl (lv_at hl 2 rfl) ?_
    refine mr_iaddN (z := 176 + a0) C0 rfl dX4_edge_125 ?_
    refine mr_ialdN (v := (fX4_remember (fX4_layAfter I b 176) b pm) (b + 1) (176 + a0)) C0 hM hMo.2.1.1 hMo.2.1.2 (by decide) (by omega) rfl dX4_edge_126 ?_
    refine lv_iconst (v := nI 1) hx hb dX4_edge_127 (by decide) ?_
    refine lv_iload_n hx hb dX4_edge_128 rfl (lv_at hl 3 rfl) ?_
    refine lv_ishl hx hb dX4_edge_129 ?_
    refine lv_iconst (v := (-1)) hx hb dX4_edge_130 (by decide) ?_
    refine lv_ixor hx hb dX4_edge_131 ?_
    refine lv_iand hx hb dX4_edge_132 ?_
    refine mr_iastN C0 hM hS hMo.2.1.1 hMo.2.1.2 (by decide) (by omega) dX4_edge_133 (fun H locs hM hS => ?_)
    refine lv_iload hx hb dX4_edge_134 (lv_at hl 0 rfl) ?_
    have eF : (nI 1, hm_put (fX4_remember (fX4_layAfter I b 176) b pm) (b + 1) (176 + a0) (((fX4_remember (fX4_layAfter I b 176) b pm) (b + 1) (176 + a0)) &&& (((nI 1) <<< ((nI b0) &&& 31)) ^^^ (-1)))) = fX4_edge_t0 I b pm a0 b0 := by unfold fX4_edge_t0; rw [if_pos c6]
    exact mr_iret (v := nI 1) C0 hr hlk hQ hS (by rw [← eF]) (by rw [← eF]; exact hM) (Nat.le_refl _) (Nat.le_refl _) dX4_edge_136
def fX4_edge_t1 (I : hm_I) (b pm a0 b0 : Nat) : Int32 × hm_I :=
  if fX4_has ((fX4_layAfter I b 176) (b + 4) b0) (nI a0) = true then ((-4), fX4_layAfter I b 176) else if fX4_has ((fX4_remember (fX4_layAfter I b 176) b pm) (b + 1) (176 + a0)) (nI b0) = true then (nI 1, hm_put (fX4_remember (fX4_layAfter I b 176) b pm) (b + 1) (176 + a0) (((fX4_remember (fX4_layAfter I b 176) b pm) (b + 1) (176 + a0)) ||| ((nI 1) <<< ((nI b0) &&& 31)))) else (nI 0, hm_put (fX4_remember (fX4_layAfter I b 176) b pm) (b + 1) (176 + a0) (((fX4_remember (fX4_layAfter I b 176) b pm) (b + 1) (176 + a0)) ||| ((nI 1) <<< ((nI b0) &&& 31))))
set_option maxHeartbeats 4000000 in
set_option maxRecDepth 100000 in
theorem ctX4_edge_t1 {l : Launch} {D : va_G} {T : Nat → ClassId} {L : List Nat} {A : Nat → Prop} {Sh : hm_S} {I : hm_I} {J : hm_J} {b : Nat} (hMo : IsM L Sh b) {pm : Nat} (hpm : I b 2 = nI pm) (hp8 : pm ≤ 8) {a0 b0 : Nat} (ha0 : a0 < 8) (hb0 : b0 < 8) (hab : a0 ≠ b0) :
    Ct l yX4_edge wsX4_edge { frames := 2, cells := 0, slots := 0, locals := 44 } 0 0 D T A [.ref b, .int (nI a0), .int (nI b0), .int (nI 1)] (hm D T L A Sh I J) (some (.int ((fX4_edge_t1 I b pm a0 b0).1))) (hm D T L A Sh ((fX4_edge_t1 I b pm a0 b0).2) J) := by
  refine Ct.ofW (cc := cX4_edge) (maxL := 5) (ret := (some .int)) (by decide) rfl (Nat.le_of_ble_eq_true rfl) ?_
  intro p_ e_ s_ m_ args_ below_ meth_ c_ ls R Qq hR hQ C0 hr hlk hname hM hl
  have hx := C0.1.1
  have hb := C0.1.2.1
  have hS : va_S A s_.heap s_.heap [] := va_S.rf
  have hl : lv_has ls 5 [(0, .ref b), (1, .int (nI a0)), (2, .int (nI b0)), (3, .int (nI 1))] := hl
  refine lv_iload_n hx hb dX4_edge_0 rfl (lv_at hl 1 rfl) ?_
  refine mr_callS (As := [.int (nI a0)]) C0 (isStreamM_t (I := I) (J := J) (s0 := a0) (by omega)) (va_cwS 1 C0.1.2.2.2.2 gX4_edge_X4_isStream rfl rfl rfl (by decide +kernel) (by rw [hR]; exact ⟨Nat.le_of_ble_eq_true rfl, Nat.le_of_ble_eq_true rfl⟩)) hM hS rfl rfl rfl hl.1 (Nat.le_of_ble_eq_true rfl) dX4_edge_1 (by rw [hR]; exact ⟨Nat.zero_le _, Nat.zero_le _⟩) (fun H locs hM hS => ?_)
  refine mr_eqB (tgt := 28) C0 dX4_edge_4 (by decide) (fun c1 => absurd c1 (by decide)) (fun _ => ?_)
  refine lv_iload_n hx hb dX4_edge_7 rfl (lv_at hl 2 rfl) ?_
  refine mr_callS (As := [.int (nI b0)]) C0 (isStreamM_t (I := I) (J := J) (s0 := b0) (by omega)) (va_cwS 1 C0.1.2.2.2.2 gX4_edge_X4_isStream rfl rfl rfl (by decide +kernel) (by rw [hR]; exact ⟨Nat.le_of_ble_eq_true rfl, Nat.le_of_ble_eq_true rfl⟩)) hM hS rfl rfl rfl hl.1 (Nat.le_of_ble_eq_true rfl) dX4_edge_8 (by rw [hR]; exact ⟨Nat.zero_le _, Nat.zero_le _⟩) (fun H locs hM hS => ?_)
  refine mr_eqB (tgt := 28) C0 dX4_edge_11 (by decide) (fun c2 => absurd c2 (by decide)) (fun _ => ?_)
  refine lv_iload_n hx hb dX4_edge_14 rfl (lv_at hl 1 rfl) ?_
  refine lv_iload_n hx hb dX4_edge_15 rfl (lv_at hl 2 rfl) ?_
  refine mr_eqN (x := a0) (y := b0) (tgt := 28) C0 dX4_edge_16 (by decide) (by omega) (by omega) (fun c3 => absurd c3 hab) (fun c3 => ?_)
  refine lv_iload_n hx hb dX4_edge_19 rfl (lv_at hl 3 rfl) ?_
  refine lv_iconst (v := nI 0) hx hb dX4_edge_20 (by decide) ?_
  refine lv_iconst (v := nI 1) hx hb dX4_edge_21 (by decide) ?_
  refine mr_callS (As := [.int (nI 1), .int (nI 0), .int (nI 1)]) C0 (ctX4_isIn (I := I) (J := J) (v := (nI 1)) (lo := (nI 0)) (up := (nI 1)) ) (va_cwS 3 C0.1.2.2.2.2 gX4_edge_X4_isIn rfl rfl rfl (by decide +kernel) (by rw [hR]; exact ⟨Nat.le_of_ble_eq_true rfl, Nat.le_of_ble_eq_true rfl⟩)) hM hS rfl rfl rfl hl.1 (Nat.le_of_ble_eq_true rfl) dX4_edge_22 (by rw [hR]; exact ⟨Nat.zero_le _, Nat.zero_le _⟩) (fun H locs hM hS => ?_)
  refine mr_neB (tgt := 30) C0 dX4_edge_25 (by decide) (fun c4 => ?_) (fun c4 => absurd c4 (by decide))
  refine lv_aload_n hx hb dX4_edge_30 rfl (lv_at hl 0 rfl) ?_
  refine lv_sipush (v := nI 176) hx hb dX4_edge_31 (by decide) ?_
  refine mr_callV (As := [.int (nI 176)]) C0 (ctX4_layAfter (I := I) (J := J) (b := b) (o := 176) hMo (by omega)) (cwV 1 C0.1.2.2.2.2 gX4_edge_X4_layAfter rfl rfl rfl (by decide +kernel) (by rw [hR]; exact ⟨Nat.le_of_ble_eq_true rfl, Nat.le_of_ble_eq_true rfl⟩)) hM hMo.1.1 hMo.1.2 rfl rfl hM hS rfl rfl rfl hl.1 (Nat.le_of_ble_eq_true rfl) dX4_edge_34 (by rw [hR]; exact ⟨Nat.zero_le _, Nat.zero_le _⟩) (fun H locs hM hS => ?_)
  refine lv_iload_n hx hb dX4_edge_37 rfl (lv_at hl 3 rfl) ?_
  refine lv_iconst (v := nI 1) hx hb dX4_edge_38 (by decide) ?_
  refine mr_neN (x := 1) (y := 1) (tgt := 58) C0 dX4_edge_39 (by decide) (by decide) (by decide) (fun c5 => absurd c5 (by decide)) (fun _ => ?_)
  refine lv_aload_n hx hb dX4_edge_42 rfl (lv_at hl 0 rfl) ?_
  refine mr_getr (r := b + 4) (TT := TX4) (N := 10) C0 uX4_edge_X4 hM hMo.1.1 hMo.1.2 rfl 5 (by decide) rfl kX4_edge_f19 rfl dX4_edge_43 ?_
  refine lv_iload_n hx hb dX4_edge_46 rfl (lv_at hl 2 rfl) ?_
  refine mr_ialdN (v := (fX4_layAfter I b 176) (b + 4) b0) C0 hM hMo.2.2.2.2.1.1 hMo.2.2.2.2.1.2 (by decide) (by omega) rfl dX4_edge_47 ?_
  refine lv_iload_n hx hb dX4_edge_48 rfl (lv_at hl 1 rfl) ?_
  refine mr_callS (As := [.int ((fX4_layAfter I b 176) (b + 4) b0), .int (nI a0)]) C0 (ctX4_has (I := (fX4_layAfter I b 176)) (J := J) (u := ((fX4_layAfter I b 176) (b + 4) b0)) (s0 := (nI a0)) ) (va_cwS 2 C0.1.2.2.2.2 gX4_edge_X4_has rfl rfl rfl (by decide +kernel) (by rw [hR]; exact ⟨Nat.le_of_ble_eq_true rfl, Nat.le_of_ble_eq_true rfl⟩)) hM hS rfl rfl rfl hl.1 (Nat.le_of_ble_eq_true rfl) dX4_edge_49 (by rw [hR]; exact ⟨Nat.zero_le _, Nat.zero_le _⟩) (fun H locs hM hS => ?_)
  refine mr_eqB (tgt := 58) C0 dX4_edge_52 (by decide) (fun c6 => ?_) (fun c6 => ?_)
  · skip
    refine lv_aload_n hx hb dX4_edge_58 rfl (lv_at hl 0 rfl) ?_
    refine mr_callV (As := []) C0 (ctX4_remember (I := (fX4_layAfter I b 176)) (J := J) (b := b) hMo ((congrFun (fX4_layAfter_ne (by omega)) _).trans hpm) (by omega)) (cwV 0 C0.1.2.2.2.2 gX4_edge_X4_remember rfl rfl rfl (by decide +kernel) (by rw [hR]; exact ⟨Nat.le_of_ble_eq_true rfl, Nat.le_of_ble_eq_true rfl⟩)) hM hMo.1.1 hMo.1.2 rfl rfl hM hS rfl rfl rfl hl.1 (Nat.le_of_ble_eq_true rfl) dX4_edge_59 (by rw [hR]; exact ⟨Nat.zero_le _, Nat.zero_le _⟩) (fun H locs hM hS => ?_)
    refine lv_aload_n hx hb dX4_edge_62 rfl (lv_at hl 0 rfl) ?_
    refine mr_getr (r := b + 1) (TT := TX4) (N := 10) C0 uX4_edge_X4 hM hMo.1.1 hMo.1.2 rfl 0 (by decide) rfl kX4_edge_f7 rfl dX4_edge_63 ?_
    refine lv_sipush (v := nI 176) hx hb dX4_edge_66 (by decide) ?_
    refine lv_iload_n hx hb dX4_edge_69 rfl (lv_at hl 1 rfl) ?_
    refine mr_iaddN (z := 176 + a0) C0 rfl dX4_edge_70 ?_
    refine mr_ialdN (v := (fX4_remember (fX4_layAfter I b 176) b pm) (b + 1) (176 + a0)) C0 hM hMo.2.1.1 hMo.2.1.2 (by decide) (by omega) rfl dX4_edge_71 ?_
    refine lv_iload_n hx hb dX4_edge_72 rfl (lv_at hl 2 rfl) ?_
    refine mr_callS (As := [.int ((fX4_remember (fX4_layAfter I b 176) b pm) (b + 1) (176 + a0)), .int (nI b0)]) C0 (ctX4_has (I := (fX4_remember (fX4_layAfter I b 176) b pm)) (J := J) (u := ((fX4_remember (fX4_layAfter I b 176) b pm) (b + 1) (176 + a0))) (s0 := (nI b0)) ) (va_cwS 2 C0.1.2.2.2.2 gX4_edge_X4_has rfl rfl rfl (by decide +kernel) (by rw [hR]; exact ⟨Nat.le_of_ble_eq_true rfl, Nat.le_of_ble_eq_true rfl⟩)) hM hS rfl rfl rfl hl.1 (Nat.le_of_ble_eq_true rfl) dX4_edge_73 (by rw [hR]; exact ⟨Nat.zero_le _, Nat.zero_le _⟩) (fun H locs hM hS => ?_)
    refine mr_eqB (tgt := 83) C0 dX4_edge_76 (by decide) (fun c7 => ?_) (fun c7 => ?_)
    · skip
      refine lv_iconst (v := nI 0) hx hb dX4_edge_83 (by decide) ?_
      refine lv_istore (lv' := [(4, .int (nI 0)), (0, .ref b), (1, .int (nI a0)), (2, .int (nI b0)), (3, .int (nI 1))]) hx hb dX4_edge_84 hl (by decide) rfl (fun ls hl => ?_)
      refine lv_aload_n hx hb dX4_edge_86 rfl (lv_at hl 1 rfl) ?_
      refine mr_getr (r := b + 1) (TT := TX4) (N := 10) C0 uX4_edge_X4 hM hMo.1.1 hMo.1.2 rfl 0 (by decide) rfl kX4_edge_f7 rfl dX4_edge_87 ?_
      refine lv_sipush (v := nI 176) hx hb dX4_edge_90 (by decide) ?_
      refine lv_iload_n hx hb dX4_edge_93 rfl (lv_at hl 2 rfl) ?_
      refine mr_iaddN (z := 176 + a0) C0 rfl dX4_edge_94 ?_
      refine lv_iload_n hx hb dX4_edge_95 rfl (lv_at hl 4 rfl) ?_
      refine lv_iconst (v := nI 1) hx hb dX4_edge_96 (by decide) ?_
      refine mr_neN (x := 1) (y := 1) (tgt := 117) C0 dX4_edge_97 (by decide) (by decide) (by decide) (fun c8 => absurd c8 (by decide)) (fun _ => ?_)
      refine lv_aload_n hx hb dX4_edge_100 rfl (lv_at hl 1 rfl) ?_
      refine mr_getr (r := b + 1) (TT := TX4) (N := 10) C0 uX4_edge_X4 hM hMo.1.1 hMo.1.2 rfl 0 (by decide) rfl kX4_edge_f7 rfl dX4_edge_101 ?_
      refine lv_sipush (v := nI 176) hx hb dX4_edge_104 (by decide) ?_
      refine lv_iload_n hx hb dX4_edge_107 rfl (lv_at hl 2 rfl) ?_
      refine mr_iaddN (z := 176 + a0) C0 rfl dX4_edge_108 ?_
      refine mr_ialdN (v := (fX4_remember (fX4_layAfter I b 176) b pm) (b + 1) (176 + a0)) C0 hM hMo.2.1.1 hMo.2.1.2 (by decide) (by omega) rfl dX4_edge_109 ?_
      refine lv_iconst (v := nI 1) hx hb dX4_edge_110 (by decide) ?_
      refine lv_iload_n hx hb dX4_edge_111 rfl (lv_at hl 3 rfl) ?_
      refine lv_ishl hx hb dX4_edge_112 ?_
      refine lv_ior hx hb dX4_edge_113 ?_
      refine lv_goto (tgt := 133) hx hb dX4_edge_114 (by decide) ?_
      refine mr_iastN C0 hM hS hMo.2.1.1 hMo.2.1.2 (by decide) (by omega) dX4_edge_133 (fun H locs hM hS => ?_)
      refine lv_iload hx hb dX4_edge_134 (lv_at hl 0 rfl) ?_
      have eF : (nI 0, hm_put (fX4_remember (fX4_layAfter I b 176) b pm) (b + 1) (176 + a0) (((fX4_remember (fX4_layAfter I b 176) b pm) (b + 1) (176 + a0)) ||| ((nI 1) <<< ((nI b0) &&& 31)))) = fX4_edge_t1 I b pm a0 b0 := by unfold fX4_edge_t1; rw [if_neg (Bool.eq_false_iff.mp c6), if_neg (Bool.eq_false_iff.mp c7)]
      exact mr_iret (v := nI 0) C0 hr hlk hQ hS (by rw [← eF]) (by rw [← eF]; exact hM) (Nat.le_refl _) (Nat.le_refl _) dX4_edge_136
    · skip
      refine lv_iconst (v := nI 1) hx hb dX4_edge_79 (by decide) ?_
      refine lv_goto (tgt := 84) hx hb dX4_edge_80 (by decide) ?_
      refine lv_istore (lv' := [(4, .int (nI 1)), (0, .ref b), (1, .int (nI a0)), (2, .int (nI b0)), (3, .int (nI 1))]) hx hb dX4_edge_84 hl (by decide) rfl (fun ls hl => ?_)
      refine lv_aload_n hx hb dX4_edge_86 rfl (lv_at hl 1 rfl) ?_
      refine mr_getr (r := b + 1) (TT := TX4) (N := 10) C0 uX4_edge_X4 hM hMo.1.1 hMo.1.2 rfl 0 (by decide) rfl kX4_edge_f7 rfl dX4_edge_87 ?_
      refine lv_sipush (v := nI 176) hx hb dX4_edge_90 (by decide) ?_
      refine lv_iload_n hx hb dX4_edge_93 rfl (lv_at hl 2 rfl) ?_
      refine mr_iaddN (z := 176 + a0) C0 rfl dX4_edge_94 ?_
      refine lv_iload_n hx hb dX4_edge_95 rfl (lv_at hl 4 rfl) ?_
      refine lv_iconst (v := nI 1) hx hb dX4_edge_96 (by decide) ?_
      refine mr_neN (x := 1) (y := 1) (tgt := 117) C0 dX4_edge_97 (by decide) (by decide) (by decide) (fun c9 => absurd c9 (by decide)) (fun _ => ?_)
      refine lv_aload_n hx hb dX4_edge_100 rfl (lv_at hl 1 rfl) ?_
      refine mr_getr (r := b + 1) (TT := TX4) (N := 10) C0 uX4_edge_X4 hM hMo.1.1 hMo.1.2 rfl 0 (by decide) rfl kX4_edge_f7 rfl dX4_edge_101 ?_
      refine lv_sipush (v := nI 176) hx hb dX4_edge_104 (by decide) ?_
      refine lv_iload_n hx hb dX4_edge_107 rfl (lv_at hl 2 rfl) ?_
      refine mr_iaddN (z := 176 + a0) C0 rfl dX4_edge_108 ?_
      refine mr_ialdN (v := (fX4_remember (fX4_layAfter I b 176) b pm) (b + 1) (176 + a0)) C0 hM hMo.2.1.1 hMo.2.1.2 (by decide) (by omega) rfl dX4_edge_109 ?_
      refine lv_iconst (v := nI 1) hx hb dX4_edge_110 (by decide) ?_
      refine lv_iload_n hx hb dX4_edge_111 rfl (lv_at hl 3 rfl) ?_
      refine lv_ishl hx hb dX4_edge_112 ?_
      refine lv_ior hx hb dX4_edge_113 ?_
      refine lv_goto (tgt := 133) hx hb dX4_edge_114 (by decide) ?_
      refine mr_iastN C0 hM hS hMo.2.1.1 hMo.2.1.2 (by decide) (by omega) dX4_edge_133 (fun H locs hM hS => ?_)
      refine lv_iload hx hb dX4_edge_134 (lv_at hl 0 rfl) ?_
      have eF : (nI 1, hm_put (fX4_remember (fX4_layAfter I b 176) b pm) (b + 1) (176 + a0) (((fX4_remember (fX4_layAfter I b 176) b pm) (b + 1) (176 + a0)) ||| ((nI 1) <<< ((nI b0) &&& 31)))) = fX4_edge_t1 I b pm a0 b0 := by unfold fX4_edge_t1; rw [if_neg (Bool.eq_false_iff.mp c6), if_pos c7]
      exact mr_iret (v := nI 1) C0 hr hlk hQ hS (by rw [← eF]) (by rw [← eF]; exact hM) (Nat.le_refl _) (Nat.le_refl _) dX4_edge_136
  · skip
    refine lv_bipush (v := (-4)) hx hb dX4_edge_55 (by decide) ?_
    have eF : ((-4), fX4_layAfter I b 176) = fX4_edge_t1 I b pm a0 b0 := by unfold fX4_edge_t1; rw [if_pos c6]
    exact mr_iret (v := (-4)) C0 hr hlk hQ hS (by rw [← eF]) (by rw [← eF]; exact hM) (Nat.le_refl _) (Nat.le_refl _) dX4_edge_57
def fX4_commit (I : hm_I) (b pm ep : Nat) : Int32 × hm_I :=
  if ep = 9 then ((-3), I) else (nI (ep + 1), (lp 8 (fun i34 x34 => hm_put x34 (b + 1) (185 + 8 * (ep + 1) + i34) (x34 (b + 1) (176 + i34))) (hm_put (fX4_remember I b pm) (b + 1) 184 (nI (ep + 1)))))
set_option maxHeartbeats 4000000 in
set_option maxRecDepth 100000 in
theorem ctX4_commit {l : Launch} {D : va_G} {T : Nat → ClassId} {L : List Nat} {A : Nat → Prop} {Sh : hm_S} {I : hm_I} {J : hm_J} {b : Nat} (hMo : IsM L Sh b) {c : Nat → Nat} {e : Nat → Nat → Nat} {ep lg : Nat} (hWm : WfM (I (b + 1)) c e ep lg) {pm : Nat} (hpm : I b 2 = nI pm) (hp8 : pm ≤ 8) :
    Ct l yX4_commit wsX4_commit { frames := 1, cells := 0, slots := 0, locals := 21 } 0 0 D T A [.ref b] (hm D T L A Sh I J) (some (.int ((fX4_commit I b pm ep).1))) (hm D T L A Sh ((fX4_commit I b pm ep).2) J) := by
  refine Ct.ofW (cc := cX4_commit) (maxL := 2) (ret := (some .int)) (by decide) rfl (Nat.le_of_ble_eq_true rfl) ?_
  intro p_ e_ s_ m_ args_ below_ meth_ c_ ls R Qq hR hQ C0 hr hlk hname hM hl
  have hx := C0.1.1
  have hb := C0.1.2.1
  have hS : va_S A s_.heap s_.heap [] := va_S.rf
  have hl : lv_has ls 2 [(0, .ref b)] := hl
  refine lv_aload_n hx hb dX4_commit_0 rfl (lv_at hl 0 rfl) ?_
  refine mr_getr (r := b + 1) (TT := TX4) (N := 10) C0 uX4_commit_X4 hM hMo.1.1 hMo.1.2 rfl 0 (by decide) rfl kX4_commit_f7 rfl dX4_commit_1 ?_
  refine lv_sipush (v := nI 184) hx hb dX4_commit_4 (by decide) ?_
  have hw1 := hWm.2.2.2.1
  refine mr_ialdN (v := nI ep) C0 hM hMo.2.1.1 hMo.2.1.2 (by decide) (by decide) hWm.2.2.1 dX4_commit_7 ?_
  refine lv_bipush (v := nI 9) hx hb dX4_commit_8 (by decide) ?_
  refine mr_neN (x := ep) (y := 9) (tgt := 16) C0 dX4_commit_10 (by decide) (by omega) (by omega) (fun c2 => ?_) (fun c2 => ?_)
  · skip
    refine lv_aload_n hx hb dX4_commit_16 rfl (lv_at hl 0 rfl) ?_
    refine mr_callV (As := []) C0 (ctX4_remember (I := I) (J := J) (b := b) hMo hpm (by omega)) (cwV 0 C0.1.2.2.2.2 gX4_commit_X4_remember rfl rfl rfl (by decide +kernel) (by rw [hR]; exact ⟨Nat.le_of_ble_eq_true rfl, Nat.le_of_ble_eq_true rfl⟩)) hM hMo.1.1 hMo.1.2 rfl rfl hM hS rfl rfl rfl hl.1 (Nat.le_of_ble_eq_true rfl) dX4_commit_17 (by rw [hR]; exact ⟨Nat.zero_le _, Nat.zero_le _⟩) (fun H locs hM hS => ?_)
    refine lv_aload_n hx hb dX4_commit_20 rfl (lv_at hl 0 rfl) ?_
    refine mr_getr (r := b + 1) (TT := TX4) (N := 10) C0 uX4_commit_X4 hM hMo.1.1 hMo.1.2 rfl 0 (by decide) rfl kX4_commit_f7 rfl dX4_commit_21 ?_
    refine lv_sipush (v := nI 184) hx hb dX4_commit_24 (by decide) ?_
    refine lv_dup2_11 hx hb dX4_commit_27 rfl rfl ?_
    refine mr_ialdN (v := nI ep) C0 hM hMo.2.1.1 hMo.2.1.2 (by decide) (by decide) ((congrFun (fX4_remember_ne (by omega) (by omega)) _).trans hWm.2.2.1) dX4_commit_28 ?_
    refine lv_iconst (v := nI 1) hx hb dX4_commit_29 (by decide) ?_
    refine mr_iaddN (z := ep + 1) C0 rfl dX4_commit_30 ?_
    refine mr_iastN C0 hM hS hMo.2.1.1 hMo.2.1.2 (by decide) (by decide) dX4_commit_31 (fun H locs hM hS => ?_)
    refine lv_iconst (v := nI 0) hx hb dX4_commit_32 (by decide) ?_
    refine lv_istore_n (lv' := [(1, .int (nI 0)), (0, .ref b)]) hx hb dX4_commit_33 rfl hl (by decide) rfl (fun ls hl => ?_)
    refine lp_loop (σ := hm_I) (fun i34 x34 => ∀ (H : Heap) (locs : List Loc) (ls : Array Slot), hm D T L A Sh x34 J H → va_S A s_.heap H locs → lv_has ls 2 [(0, .ref b), (1, .int (nI i34))] → W p_ l e_ R s_ m_ args_ below_ meth_ c_ H locs 0 0 Qq (F0 m_ 34 ls [])) 8 (fun i34 x34 => hm_put x34 (b + 1) (185 + 8 * (ep + 1) + i34) (x34 (b + 1) (176 + i34))) (hm_put (fX4_remember I b pm) (b + 1) 184 (nI (ep + 1))) (fun (i34 : Nat) (x34 : hm_I) => x34 (b + 1) 184 = nI (ep + 1)) (hm_put_at _ _ _ _) (fun i x hi hv => (hm_put_get (by omega)).trans hv) (fun i34 x34 hi3 hv4 k5 H locs ls hM hS hl => ?_) (fun hv4 H locs ls hM hS hl => ?_) _ _ _ hM hS (lv_sub hl [1, 0] rfl)
    · have stp6 : ∀ yy_ : hm_I, yy_ = (hm_put x34 (b + 1) (185 + 8 * (ep + 1) + i34) (x34 (b + 1) (176 + i34))) → ∀ (H : Heap) (locs : List Loc) (ls : Array Slot), hm D T L A Sh yy_ J H → va_S A s_.heap H locs → lv_has ls 2 [(0, .ref b), (1, .int (nI (i34 + 1)))] → W p_ l e_ R s_ m_ args_ below_ meth_ c_ H locs 0 0 Qq (F0 m_ 34 ls []) := fun yy_ ey => by rw [ey]; exact k5
      refine lv_iload_n hx hb dX4_commit_34 rfl (lv_at hl 1 rfl) ?_
      refine lv_bipush (v := nI 8) hx hb dX4_commit_35 (by decide) ?_
      refine mr_geN (x := i34) (y := 8) (tgt := 74) C0 dX4_commit_37 (by decide) (by omega) (by omega) (fun c7 => absurd c7 (by omega)) (fun c7 => ?_)
      refine lv_aload_n hx hb dX4_commit_40 rfl (lv_at hl 0 rfl) ?_
      refine mr_getr (r := b + 1) (TT := TX4) (N := 10) C0 uX4_commit_X4 hM hMo.1.1 hMo.1.2 rfl 0 (by decide) rfl kX4_commit_f7 rfl dX4_commit_41 ?_
      refine lv_aload_n hx hb dX4_commit_44 rfl (lv_at hl 0 rfl) ?_
      refine mr_getr (r := b + 1) (TT := TX4) (N := 10) C0 uX4_commit_X4 hM hMo.1.1 hMo.1.2 rfl 0 (by decide) rfl kX4_commit_f7 rfl dX4_commit_45 ?_
      refine lv_sipush (v := nI 184) hx hb dX4_commit_48 (by decide) ?_
      refine mr_ialdN (v := nI (ep + 1)) C0 hM hMo.2.1.1 hMo.2.1.2 (by decide) (by decide) hv4 dX4_commit_51 ?_
      refine mr_callS (As := [.int (nI (ep + 1))]) C0 (ctX4_orderOf_t (I := x34) (J := J) (e0 := (ep + 1)) (by omega)) (va_cwS 1 C0.1.2.2.2.2 gX4_commit_X4_orderOf rfl rfl rfl (by decide +kernel) (by rw [hR]; exact ⟨Nat.le_of_ble_eq_true rfl, Nat.le_of_ble_eq_true rfl⟩)) hM hS rfl rfl rfl hl.1 (Nat.le_of_ble_eq_true rfl) dX4_commit_52 (by rw [hR]; exact ⟨Nat.zero_le _, Nat.zero_le _⟩) (fun H locs hM hS => ?_)
      refine lv_iload_n hx hb dX4_commit_55 rfl (lv_at hl 1 rfl) ?_
      refine mr_iaddN (z := 185 + 8 * (ep + 1) + i34) C0 rfl dX4_commit_56 ?_
      refine lv_aload_n hx hb dX4_commit_57 rfl (lv_at hl 0 rfl) ?_
      refine mr_getr (r := b + 1) (TT := TX4) (N := 10) C0 uX4_commit_X4 hM hMo.1.1 hMo.1.2 rfl 0 (by decide) rfl kX4_commit_f7 rfl dX4_commit_58 ?_
      refine lv_sipush (v := nI 176) hx hb dX4_commit_61 (by decide) ?_
      refine lv_iload_n hx hb dX4_commit_64 rfl (lv_at hl 1 rfl) ?_
      refine mr_iaddN (z := 176 + i34) C0 rfl dX4_commit_65 ?_
      refine mr_ialdN (v := x34 (b + 1) (176 + i34)) C0 hM hMo.2.1.1 hMo.2.1.2 (by decide) (by omega) rfl dX4_commit_66 ?_
      refine mr_iastN C0 hM hS hMo.2.1.1 hMo.2.1.2 (by decide) (by omega) dX4_commit_67 (fun H locs hM hS => ?_)
      refine lv_iinc (v := nI (i34 + 1)) (lv' := [(1, .int (nI (i34 + 1))), (0, .ref b)]) hx hb dX4_commit_68 hl (k := 1) rfl (nI_1 _) (by decide) rfl (fun ls hl => ?_)
      refine lv_goto (tgt := 34) hx hb dX4_commit_71 (by decide) ?_
      exact stp6 (hm_put x34 (b + 1) (185 + 8 * (ep + 1) + i34) (x34 (b + 1) (176 + i34))) rfl H locs ls hM hS (lv_sub hl [1, 0] rfl)
    · skip
      refine lv_iload_n hx hb dX4_commit_34 rfl (lv_at hl 1 rfl) ?_
      refine lv_bipush (v := nI 8) hx hb dX4_commit_35 (by decide) ?_
      refine mr_geN (x := 8) (y := 8) (tgt := 74) C0 dX4_commit_37 (by decide) (by decide) (by decide) (fun _ => ?_) (fun c8 => absurd c8 (by decide))
      refine lv_aload_n hx hb dX4_commit_74 rfl (lv_at hl 0 rfl) ?_
      refine mr_getr (r := b + 1) (TT := TX4) (N := 10) C0 uX4_commit_X4 hM hMo.1.1 hMo.1.2 rfl 0 (by decide) rfl kX4_commit_f7 rfl dX4_commit_75 ?_
      refine lv_sipush (v := nI 184) hx hb dX4_commit_78 (by decide) ?_
      refine mr_ialdN (v := nI (ep + 1)) C0 hM hMo.2.1.1 hMo.2.1.2 (by decide) (by decide) hv4 dX4_commit_81 ?_
      have eF : (nI (ep + 1), (lp 8 (fun i34 x34 => hm_put x34 (b + 1) (185 + 8 * (ep + 1) + i34) (x34 (b + 1) (176 + i34))) (hm_put (fX4_remember I b pm) (b + 1) 184 (nI (ep + 1))))) = fX4_commit I b pm ep := by unfold fX4_commit; rw [if_neg c2]
      exact mr_iret (v := nI (ep + 1)) C0 hr hlk hQ hS (by rw [← eF]) (by rw [← eF]; exact hM) (Nat.le_refl _) (Nat.le_refl _) dX4_commit_82
  · skip
    refine lv_bipush (v := (-3)) hx hb dX4_commit_13 (by decide) ?_
    have eF : ((-3), I) = fX4_commit I b pm ep := by unfold fX4_commit; rw [if_pos c2]
    exact mr_iret (v := (-3)) C0 hr hlk hQ hS (by rw [← eF]) (by rw [← eF]; exact hM) (Nat.le_refl _) (Nat.le_refl _) dX4_commit_15
set_option maxHeartbeats 4000000 in
set_option maxRecDepth 100000 in
theorem ctX4_revert_b {l : Launch} {D : va_G} {T : Nat → ClassId} {L : List Nat} {A : Nat → Prop} {Sh : hm_S} {I : hm_I} {J : hm_J} {b : Nat} (hMo : IsM L Sh b) {c : Nat → Nat} {e : Nat → Nat → Nat} {ep lg : Nat} (hWm : WfM (I (b + 1)) c e ep lg) {e0 : Int32} (hb0 : fX4_isIn e0 (nI 0) (nI ep) = false) :
    Ct l yX4_revert wsX4_revert { frames := 1, cells := 0, slots := 0, locals := 22 } 0 0 D T A [.ref b, .int e0] (hm D T L A Sh I J) (some (.int (-1))) (hm D T L A Sh I J) := by
  refine Ct.ofW (cc := cX4_revert) (maxL := 3) (ret := (some .int)) (by decide) rfl (Nat.le_of_ble_eq_true rfl) ?_
  intro p_ e_ s_ m_ args_ below_ meth_ c_ ls R Qq hR hQ C0 hr hlk hname hM hl
  have hx := C0.1.1
  have hb := C0.1.2.1
  have hS : va_S A s_.heap s_.heap [] := va_S.rf
  have hl : lv_has ls 3 [(0, .ref b), (1, .int e0)] := hl
  refine lv_iload_n hx hb dX4_revert_0 rfl (lv_at hl 1 rfl) ?_
  refine lv_iconst (v := nI 0) hx hb dX4_revert_1 (by decide) ?_
  refine lv_aload_n hx hb dX4_revert_2 rfl (lv_at hl 0 rfl) ?_
  refine mr_getr (r := b + 1) (TT := TX4) (N := 10) C0 uX4_revert_X4 hM hMo.1.1 hMo.1.2 rfl 0 (by decide) rfl kX4_revert_f7 rfl dX4_revert_3 ?_
  refine lv_sipush (v := nI 184) hx hb dX4_revert_6 (by decide) ?_
  have hw1 := hWm.2.2.2.1
  refine mr_ialdN (v := nI ep) C0 hM hMo.2.1.1 hMo.2.1.2 (by decide) (by decide) hWm.2.2.1 dX4_revert_9 ?_
  refine mr_callS (As := [.int e0, .int (nI 0), .int (nI ep)]) C0 (ctX4_isIn (I := I) (J := J) (v := e0) (lo := (nI 0)) (up := (nI ep)) ) (va_cwS 3 C0.1.2.2.2.2 gX4_revert_X4_isIn rfl rfl rfl (by decide +kernel) (by rw [hR]; exact ⟨Nat.le_of_ble_eq_true rfl, Nat.le_of_ble_eq_true rfl⟩)) hM hS rfl rfl rfl hl.1 (Nat.le_of_ble_eq_true rfl) dX4_revert_10 (by rw [hR]; exact ⟨Nat.zero_le _, Nat.zero_le _⟩) (fun H locs hM hS => ?_)
  refine mr_neB (tgt := 18) C0 dX4_revert_13 (by decide) (fun c2 => absurd c2 (by rw [hb0]; decide)) (fun c2 => ?_)
  refine lv_iconst (v := (-1)) hx hb dX4_revert_16 (by decide) ?_
  skip
  exact mr_iret (v := (-1)) C0 hr hlk hQ hS rfl hM (Nat.le_refl _) (Nat.le_refl _) dX4_revert_17
def fX4_revert_t (I : hm_I) (b pm e0 : Nat) : Int32 × hm_I :=
  (fX4_edges (lp 8 (fun i24 x24 => hm_put x24 (b + 1) (176 + i24) (x24 (b + 1) (185 + 8 * e0 + i24))) (fX4_remember I b pm)) b 176, (lp 8 (fun i24 x24 => hm_put x24 (b + 1) (176 + i24) (x24 (b + 1) (185 + 8 * e0 + i24))) (fX4_remember I b pm)))
set_option maxHeartbeats 4000000 in
set_option maxRecDepth 100000 in
theorem ctX4_revert_t {l : Launch} {D : va_G} {T : Nat → ClassId} {L : List Nat} {A : Nat → Prop} {Sh : hm_S} {I : hm_I} {J : hm_J} {b : Nat} (hMo : IsM L Sh b) {c : Nat → Nat} {e : Nat → Nat → Nat} {ep lg : Nat} (hWm : WfM (I (b + 1)) c e ep lg) {pm : Nat} (hpm : I b 2 = nI pm) (hp8 : pm ≤ 8) {e0 : Nat} (he0 : e0 ≤ ep) (hb0 : fX4_isIn (nI e0) (nI 0) (nI ep) = true) :
    Ct l yX4_revert wsX4_revert { frames := 2, cells := 0, slots := 0, locals := 45 } 0 0 D T A [.ref b, .int (nI e0)] (hm D T L A Sh I J) (some (.int ((fX4_revert_t I b pm e0).1))) (hm D T L A Sh ((fX4_revert_t I b pm e0).2) J) := by
  refine Ct.ofW (cc := cX4_revert) (maxL := 3) (ret := (some .int)) (by decide) rfl (Nat.le_of_ble_eq_true rfl) ?_
  intro p_ e_ s_ m_ args_ below_ meth_ c_ ls R Qq hR hQ C0 hr hlk hname hM hl
  have hx := C0.1.1
  have hb := C0.1.2.1
  have hS : va_S A s_.heap s_.heap [] := va_S.rf
  have hl : lv_has ls 3 [(0, .ref b), (1, .int (nI e0))] := hl
  refine lv_iload_n hx hb dX4_revert_0 rfl (lv_at hl 1 rfl) ?_
  refine lv_iconst (v := nI 0) hx hb dX4_revert_1 (by decide) ?_
  refine lv_aload_n hx hb dX4_revert_2 rfl (lv_at hl 0 rfl) ?_
  refine mr_getr (r := b + 1) (TT := TX4) (N := 10) C0 uX4_revert_X4 hM hMo.1.1 hMo.1.2 rfl 0 (by decide) rfl kX4_revert_f7 rfl dX4_revert_3 ?_
  refine lv_sipush (v := nI 184) hx hb dX4_revert_6 (by decide) ?_
  have hw1 := hWm.2.2.2.1
  refine mr_ialdN (v := nI ep) C0 hM hMo.2.1.1 hMo.2.1.2 (by decide) (by decide) hWm.2.2.1 dX4_revert_9 ?_
  refine mr_callS (As := [.int (nI e0), .int (nI 0), .int (nI ep)]) C0 (ctX4_isIn (I := I) (J := J) (v := (nI e0)) (lo := (nI 0)) (up := (nI ep)) ) (va_cwS 3 C0.1.2.2.2.2 gX4_revert_X4_isIn rfl rfl rfl (by decide +kernel) (by rw [hR]; exact ⟨Nat.le_of_ble_eq_true rfl, Nat.le_of_ble_eq_true rfl⟩)) hM hS rfl rfl rfl hl.1 (Nat.le_of_ble_eq_true rfl) dX4_revert_10 (by rw [hR]; exact ⟨Nat.zero_le _, Nat.zero_le _⟩) (fun H locs hM hS => ?_)
  refine mr_neB (tgt := 18) C0 dX4_revert_13 (by decide) (fun c2 => ?_) (fun c2 => absurd c2 (by rw [hb0]; decide))
  refine lv_aload_n hx hb dX4_revert_18 rfl (lv_at hl 0 rfl) ?_
  refine mr_callV (As := []) C0 (ctX4_remember (I := I) (J := J) (b := b) hMo hpm (by omega)) (cwV 0 C0.1.2.2.2.2 gX4_revert_X4_remember rfl rfl rfl (by decide +kernel) (by rw [hR]; exact ⟨Nat.le_of_ble_eq_true rfl, Nat.le_of_ble_eq_true rfl⟩)) hM hMo.1.1 hMo.1.2 rfl rfl hM hS rfl rfl rfl hl.1 (Nat.le_of_ble_eq_true rfl) dX4_revert_19 (by rw [hR]; exact ⟨Nat.zero_le _, Nat.zero_le _⟩) (fun H locs hM hS => ?_)
  refine lv_iconst (v := nI 0) hx hb dX4_revert_22 (by decide) ?_
  refine lv_istore_n (lv' := [(2, .int (nI 0)), (0, .ref b), (1, .int (nI e0))]) hx hb dX4_revert_23 rfl hl (by decide) rfl (fun ls hl => ?_)
  refine lp_loop (σ := hm_I) (fun i24 x24 => ∀ (H : Heap) (locs : List Loc) (ls : Array Slot), hm D T L A Sh x24 J H → va_S A s_.heap H locs → lv_has ls 3 [(0, .ref b), (1, .int (nI e0)), (2, .int (nI i24))] → W p_ l e_ R s_ m_ args_ below_ meth_ c_ H locs 0 0 Qq (F0 m_ 24 ls [])) 8 (fun i24 x24 => hm_put x24 (b + 1) (176 + i24) (x24 (b + 1) (185 + 8 * e0 + i24))) (fX4_remember I b pm) (fun _ _ => True) trivial (fun _ _ _ _ => trivial) (fun i24 x24 hi3 hv4 k5 H locs ls hM hS hl => ?_) (fun hv4 H locs ls hM hS hl => ?_) _ _ _ hM hS (lv_sub hl [1, 2, 0] rfl)
  · have stp6 : ∀ yy_ : hm_I, yy_ = (hm_put x24 (b + 1) (176 + i24) (x24 (b + 1) (185 + 8 * e0 + i24))) → ∀ (H : Heap) (locs : List Loc) (ls : Array Slot), hm D T L A Sh yy_ J H → va_S A s_.heap H locs → lv_has ls 3 [(0, .ref b), (1, .int (nI e0)), (2, .int (nI (i24 + 1)))] → W p_ l e_ R s_ m_ args_ below_ meth_ c_ H locs 0 0 Qq (F0 m_ 24 ls []) := fun yy_ ey => by rw [ey]; exact k5
    refine lv_iload_n hx hb dX4_revert_24 rfl (lv_at hl 2 rfl) ?_
    refine lv_bipush (v := nI 8) hx hb dX4_revert_25 (by decide) ?_
    refine mr_geN (x := i24) (y := 8) (tgt := 57) C0 dX4_revert_27 (by decide) (by omega) (by omega) (fun c7 => absurd c7 (by omega)) (fun c7 => ?_)
    refine lv_aload_n hx hb dX4_revert_30 rfl (lv_at hl 0 rfl) ?_
    refine mr_getr (r := b + 1) (TT := TX4) (N := 10) C0 uX4_revert_X4 hM hMo.1.1 hMo.1.2 rfl 0 (by decide) rfl kX4_revert_f7 rfl dX4_revert_31 ?_
    refine lv_sipush (v := nI 176) hx hb dX4_revert_34 (by decide) ?_
    refine lv_iload_n hx hb dX4_revert_37 rfl (lv_at hl 2 rfl) ?_
    refine mr_iaddN (z := 176 + i24) C0 rfl dX4_revert_38 ?_
    refine lv_aload_n hx hb dX4_revert_39 rfl (lv_at hl 0 rfl) ?_
    refine mr_getr (r := b + 1) (TT := TX4) (N := 10) C0 uX4_revert_X4 hM hMo.1.1 hMo.1.2 rfl 0 (by decide) rfl kX4_revert_f7 rfl dX4_revert_40 ?_
    refine lv_iload_n hx hb dX4_revert_43 rfl (lv_at hl 1 rfl) ?_
    refine mr_callS (As := [.int (nI e0)]) C0 (ctX4_orderOf_t (I := x24) (J := J) (e0 := e0) (by omega)) (va_cwS 1 C0.1.2.2.2.2 gX4_revert_X4_orderOf rfl rfl rfl (by decide +kernel) (by rw [hR]; exact ⟨Nat.le_of_ble_eq_true rfl, Nat.le_of_ble_eq_true rfl⟩)) hM hS rfl rfl rfl hl.1 (Nat.le_of_ble_eq_true rfl) dX4_revert_44 (by rw [hR]; exact ⟨Nat.zero_le _, Nat.zero_le _⟩) (fun H locs hM hS => ?_)
    refine lv_iload_n hx hb dX4_revert_47 rfl (lv_at hl 2 rfl) ?_
    refine mr_iaddN (z := 185 + 8 * e0 + i24) C0 rfl dX4_revert_48 ?_
    refine mr_ialdN (v := x24 (b + 1) (185 + 8 * e0 + i24)) C0 hM hMo.2.1.1 hMo.2.1.2 (by decide) (by omega) rfl dX4_revert_49 ?_
    refine mr_iastN C0 hM hS hMo.2.1.1 hMo.2.1.2 (by decide) (by omega) dX4_revert_50 (fun H locs hM hS => ?_)
    refine lv_iinc (v := nI (i24 + 1)) (lv' := [(2, .int (nI (i24 + 1))), (0, .ref b), (1, .int (nI e0))]) hx hb dX4_revert_51 hl (k := 2) rfl (nI_1 _) (by decide) rfl (fun ls hl => ?_)
    refine lv_goto (tgt := 24) hx hb dX4_revert_54 (by decide) ?_
    exact stp6 (hm_put x24 (b + 1) (176 + i24) (x24 (b + 1) (185 + 8 * e0 + i24))) rfl H locs ls hM hS (lv_sub hl [1, 2, 0] rfl)
  · skip
    refine lv_iload_n hx hb dX4_revert_24 rfl (lv_at hl 2 rfl) ?_
    refine lv_bipush (v := nI 8) hx hb dX4_revert_25 (by decide) ?_
    refine mr_geN (x := 8) (y := 8) (tgt := 57) C0 dX4_revert_27 (by decide) (by decide) (by decide) (fun _ => ?_) (fun c8 => absurd c8 (by decide))
    refine lv_aload_n hx hb dX4_revert_57 rfl (lv_at hl 0 rfl) ?_
    refine lv_sipush (v := nI 176) hx hb dX4_revert_58 (by decide) ?_
    refine mr_callV (As := [.int (nI 176)]) C0 (ctX4_edges (I := (lp 8 (fun i24 x24 => hm_put x24 (b + 1) (176 + i24) (x24 (b + 1) (185 + 8 * e0 + i24))) (fX4_remember I b pm))) (J := J) (b := b) (o := 176) hMo (by omega)) (cwV 1 C0.1.2.2.2.2 gX4_revert_X4_edges rfl rfl rfl (by decide +kernel) (by rw [hR]; exact ⟨Nat.le_of_ble_eq_true rfl, Nat.le_of_ble_eq_true rfl⟩)) hM hMo.1.1 hMo.1.2 rfl rfl hM hS rfl rfl rfl hl.1 (Nat.le_of_ble_eq_true rfl) dX4_revert_61 (by rw [hR]; exact ⟨Nat.zero_le _, Nat.zero_le _⟩) (fun H locs hM hS => ?_)
    have eF : (fX4_edges (lp 8 (fun i24 x24 => hm_put x24 (b + 1) (176 + i24) (x24 (b + 1) (185 + 8 * e0 + i24))) (fX4_remember I b pm)) b 176, (lp 8 (fun i24 x24 => hm_put x24 (b + 1) (176 + i24) (x24 (b + 1) (185 + 8 * e0 + i24))) (fX4_remember I b pm))) = fX4_revert_t I b pm e0 := rfl
    exact mr_iret (v := fX4_edges (lp 8 (fun i24 x24 => hm_put x24 (b + 1) (176 + i24) (x24 (b + 1) (185 + 8 * e0 + i24))) (fX4_remember I b pm)) b 176) C0 hr hlk hQ hS (by rw [← eF]) (by rw [← eF]; exact hM) (Nat.le_refl _) (Nat.le_refl _) dX4_revert_64
def fX4_sendNext_t (I : hm_I) (b : Nat) (c : Nat → Nat) (e : Nat → Nat → Nat) (lg s0 : Nat) : Int32 × hm_I :=
  if lg = 40 then (((fX4_nextStream I b c e).2) (b + 1) (32 + 18 * s0 + 3 * 0 + 0), (lp (3 * (c s0 - 1)) (fun i195 x195 => hm_put x195 (b + 1) (32 + 18 * s0 + i195) (x195 (b + 1) (32 + 18 * s0 + i195 + 3))) (hm_put (hm_put (hm_put (hm_put (hm_put (hm_put (hm_put (hm_put (hm_put (lp 156 (fun i28 x28 => hm_put x28 (b + 1) (268 + i28) (x28 (b + 1) (268 + i28 + 4))) ((fX4_nextStream I b c e).2)) (b + 1) 267 (nI (lg - 1))) (b + 1) (268 + 4 * (lg - 1)) (((fX4_nextStream I b c e).2) (b + 1) (32 + 18 * s0 + 3 * 0 + 0))) (b + 1) (268 + 4 * (lg - 1) + 1) (nI s0)) (b + 1) (268 + 4 * (lg - 1) + 2) ((hm_put (hm_put (hm_put (lp 156 (fun i28 x28 => hm_put x28 (b + 1) (268 + i28) (x28 (b + 1) (268 + i28 + 4))) ((fX4_nextStream I b c e).2)) (b + 1) 267 (nI (lg - 1))) (b + 1) (268 + 4 * (lg - 1)) (((fX4_nextStream I b c e).2) (b + 1) (32 + 18 * s0 + 3 * 0 + 0))) (b + 1) (268 + 4 * (lg - 1) + 1) (nI s0)) (b + 1) (32 + 18 * s0 + 3 * 0 + 1))) (b + 1) (268 + 4 * (lg - 1) + 3) ((hm_put (hm_put (hm_put (hm_put (lp 156 (fun i28 x28 => hm_put x28 (b + 1) (268 + i28) (x28 (b + 1) (268 + i28 + 4))) ((fX4_nextStream I b c e).2)) (b + 1) 267 (nI (lg - 1))) (b + 1) (268 + 4 * (lg - 1)) (((fX4_nextStream I b c e).2) (b + 1) (32 + 18 * s0 + 3 * 0 + 0))) (b + 1) (268 + 4 * (lg - 1) + 1) (nI s0)) (b + 1) (268 + 4 * (lg - 1) + 2) ((hm_put (hm_put (hm_put (lp 156 (fun i28 x28 => hm_put x28 (b + 1) (268 + i28) (x28 (b + 1) (268 + i28 + 4))) ((fX4_nextStream I b c e).2)) (b + 1) 267 (nI (lg - 1))) (b + 1) (268 + 4 * (lg - 1)) (((fX4_nextStream I b c e).2) (b + 1) (32 + 18 * s0 + 3 * 0 + 0))) (b + 1) (268 + 4 * (lg - 1) + 1) (nI s0)) (b + 1) (32 + 18 * s0 + 3 * 0 + 1))) (b + 1) (32 + 18 * s0 + 3 * 0 + 2))) (b + 1) 267 (nI ((lg - 1) + 1))) (b + 1) 266 (((lp 156 (fun i28 x28 => hm_put x28 (b + 1) (268 + i28) (x28 (b + 1) (268 + i28 + 4))) ((fX4_nextStream I b c e).2)) (b + 1) 266) + (nI 1))) (b + 1) (16 + s0) (((lp 156 (fun i28 x28 => hm_put x28 (b + 1) (268 + i28) (x28 (b + 1) (268 + i28 + 4))) ((fX4_nextStream I b c e).2)) (b + 1) (16 + s0)) + ((hm_put (hm_put (hm_put (hm_put (hm_put (hm_put (hm_put (lp 156 (fun i28 x28 => hm_put x28 (b + 1) (268 + i28) (x28 (b + 1) (268 + i28 + 4))) ((fX4_nextStream I b c e).2)) (b + 1) 267 (nI (lg - 1))) (b + 1) (268 + 4 * (lg - 1)) (((fX4_nextStream I b c e).2) (b + 1) (32 + 18 * s0 + 3 * 0 + 0))) (b + 1) (268 + 4 * (lg - 1) + 1) (nI s0)) (b + 1) (268 + 4 * (lg - 1) + 2) ((hm_put (hm_put (hm_put (lp 156 (fun i28 x28 => hm_put x28 (b + 1) (268 + i28) (x28 (b + 1) (268 + i28 + 4))) ((fX4_nextStream I b c e).2)) (b + 1) 267 (nI (lg - 1))) (b + 1) (268 + 4 * (lg - 1)) (((fX4_nextStream I b c e).2) (b + 1) (32 + 18 * s0 + 3 * 0 + 0))) (b + 1) (268 + 4 * (lg - 1) + 1) (nI s0)) (b + 1) (32 + 18 * s0 + 3 * 0 + 1))) (b + 1) (268 + 4 * (lg - 1) + 3) ((hm_put (hm_put (hm_put (hm_put (lp 156 (fun i28 x28 => hm_put x28 (b + 1) (268 + i28) (x28 (b + 1) (268 + i28 + 4))) ((fX4_nextStream I b c e).2)) (b + 1) 267 (nI (lg - 1))) (b + 1) (268 + 4 * (lg - 1)) (((fX4_nextStream I b c e).2) (b + 1) (32 + 18 * s0 + 3 * 0 + 0))) (b + 1) (268 + 4 * (lg - 1) + 1) (nI s0)) (b + 1) (268 + 4 * (lg - 1) + 2) ((hm_put (hm_put (hm_put (lp 156 (fun i28 x28 => hm_put x28 (b + 1) (268 + i28) (x28 (b + 1) (268 + i28 + 4))) ((fX4_nextStream I b c e).2)) (b + 1) 267 (nI (lg - 1))) (b + 1) (268 + 4 * (lg - 1)) (((fX4_nextStream I b c e).2) (b + 1) (32 + 18 * s0 + 3 * 0 + 0))) (b + 1) (268 + 4 * (lg - 1) + 1) (nI s0)) (b + 1) (32 + 18 * s0 + 3 * 0 + 1))) (b + 1) (32 + 18 * s0 + 3 * 0 + 2))) (b + 1) 267 (nI ((lg - 1) + 1))) (b + 1) 266 (((lp 156 (fun i28 x28 => hm_put x28 (b + 1) (268 + i28) (x28 (b + 1) (268 + i28 + 4))) ((fX4_nextStream I b c e).2)) (b + 1) 266) + (nI 1))) (b + 1) (32 + 18 * s0 + 3 * 0 + 1)))) (b + 1) (24 + s0) (nI (c s0 - 1))))) else (((fX4_nextStream I b c e).2) (b + 1) (32 + 18 * s0 + 3 * 0 + 0), (lp (3 * (c s0 - 1)) (fun i195 x195 => hm_put x195 (b + 1) (32 + 18 * s0 + i195) (x195 (b + 1) (32 + 18 * s0 + i195 + 3))) (hm_put (hm_put (hm_put (hm_put (hm_put (hm_put (hm_put (hm_put ((fX4_nextStream I b c e).2) (b + 1) (268 + 4 * lg) (((fX4_nextStream I b c e).2) (b + 1) (32 + 18 * s0 + 3 * 0 + 0))) (b + 1) (268 + 4 * lg + 1) (nI s0)) (b + 1) (268 + 4 * lg + 2) ((hm_put (hm_put ((fX4_nextStream I b c e).2) (b + 1) (268 + 4 * lg) (((fX4_nextStream I b c e).2) (b + 1) (32 + 18 * s0 + 3 * 0 + 0))) (b + 1) (268 + 4 * lg + 1) (nI s0)) (b + 1) (32 + 18 * s0 + 3 * 0 + 1))) (b + 1) (268 + 4 * lg + 3) ((hm_put (hm_put (hm_put ((fX4_nextStream I b c e).2) (b + 1) (268 + 4 * lg) (((fX4_nextStream I b c e).2) (b + 1) (32 + 18 * s0 + 3 * 0 + 0))) (b + 1) (268 + 4 * lg + 1) (nI s0)) (b + 1) (268 + 4 * lg + 2) ((hm_put (hm_put ((fX4_nextStream I b c e).2) (b + 1) (268 + 4 * lg) (((fX4_nextStream I b c e).2) (b + 1) (32 + 18 * s0 + 3 * 0 + 0))) (b + 1) (268 + 4 * lg + 1) (nI s0)) (b + 1) (32 + 18 * s0 + 3 * 0 + 1))) (b + 1) (32 + 18 * s0 + 3 * 0 + 2))) (b + 1) 267 (nI (lg + 1))) (b + 1) 266 ((((fX4_nextStream I b c e).2) (b + 1) 266) + (nI 1))) (b + 1) (16 + s0) ((((fX4_nextStream I b c e).2) (b + 1) (16 + s0)) + ((hm_put (hm_put (hm_put (hm_put (hm_put (hm_put ((fX4_nextStream I b c e).2) (b + 1) (268 + 4 * lg) (((fX4_nextStream I b c e).2) (b + 1) (32 + 18 * s0 + 3 * 0 + 0))) (b + 1) (268 + 4 * lg + 1) (nI s0)) (b + 1) (268 + 4 * lg + 2) ((hm_put (hm_put ((fX4_nextStream I b c e).2) (b + 1) (268 + 4 * lg) (((fX4_nextStream I b c e).2) (b + 1) (32 + 18 * s0 + 3 * 0 + 0))) (b + 1) (268 + 4 * lg + 1) (nI s0)) (b + 1) (32 + 18 * s0 + 3 * 0 + 1))) (b + 1) (268 + 4 * lg + 3) ((hm_put (hm_put (hm_put ((fX4_nextStream I b c e).2) (b + 1) (268 + 4 * lg) (((fX4_nextStream I b c e).2) (b + 1) (32 + 18 * s0 + 3 * 0 + 0))) (b + 1) (268 + 4 * lg + 1) (nI s0)) (b + 1) (268 + 4 * lg + 2) ((hm_put (hm_put ((fX4_nextStream I b c e).2) (b + 1) (268 + 4 * lg) (((fX4_nextStream I b c e).2) (b + 1) (32 + 18 * s0 + 3 * 0 + 0))) (b + 1) (268 + 4 * lg + 1) (nI s0)) (b + 1) (32 + 18 * s0 + 3 * 0 + 1))) (b + 1) (32 + 18 * s0 + 3 * 0 + 2))) (b + 1) 267 (nI (lg + 1))) (b + 1) 266 ((((fX4_nextStream I b c e).2) (b + 1) 266) + (nI 1))) (b + 1) (32 + 18 * s0 + 3 * 0 + 1)))) (b + 1) (24 + s0) (nI (c s0 - 1)))))
set_option maxHeartbeats 4000000 in
set_option maxRecDepth 100000 in
theorem ctX4_sendNext_t {l : Launch} {D : va_G} {T : Nat → ClassId} {L : List Nat} {A : Nat → Prop} {Sh : hm_S} {I : hm_I} {J : hm_J} {b : Nat} (hMo : IsM L Sh b) {c : Nat → Nat} {e : Nat → Nat → Nat} {ep lg : Nat} (hWm : WfM (I (b + 1)) c e ep lg) {s0 : Nat} (hs0 : s0 < 8) (hc0 : 0 < c s0) (hns : (fX4_nextStream I b c e).1 = nI s0) :
    Ct l yX4_sendNext wsX4_sendNext { frames := 5, cells := 0, slots := 0, locals := 113 } 0 0 D T A [.ref b] (hm D T L A Sh I J) (some (.int ((fX4_sendNext_t I b c e lg s0).1))) (hm D T L A Sh ((fX4_sendNext_t I b c e lg s0).2) J) := by
  refine Ct.ofW (cc := cX4_sendNext) (maxL := 5) (ret := (some .int)) (by decide) rfl (Nat.le_of_ble_eq_true rfl) ?_
  intro p_ e_ s_ m_ args_ below_ meth_ c_ ls R Qq hR hQ C0 hr hlk hname hM hl
  have hx := C0.1.1
  have hb := C0.1.2.1
  have hS : va_S A s_.heap s_.heap [] := va_S.rf
  have hl : lv_has ls 5 [(0, .ref b)] := hl
  refine lv_aload_n hx hb dX4_sendNext_0 rfl (lv_at hl 0 rfl) ?_
  refine mr_callV (As := []) C0 (ctX4_nextStream (I := I) (J := J) (b := b) hMo hWm) (cwV 0 C0.1.2.2.2.2 gX4_sendNext_X4_nextStream rfl rfl rfl (by decide +kernel) (by rw [hR]; exact ⟨Nat.le_of_ble_eq_true rfl, Nat.le_of_ble_eq_true rfl⟩)) hM hMo.1.1 hMo.1.2 rfl rfl hM hS rfl rfl rfl hl.1 (Nat.le_of_ble_eq_true rfl) dX4_sendNext_1 (by rw [hR]; exact ⟨Nat.zero_le _, Nat.zero_le _⟩) (fun H locs hM hS => ?_)
  refine mr_top (y := nI s0) hns ?_
  have hw1 := (show WfM (((fX4_nextStream I b c e).2) (b + 1)) c e ep lg from WfM_eq (fX4_nextStream_ne (by omega)) hWm).1 s0 (by omega)
  have hw1b := hw1.2
  have hw2 := (show WfM (((fX4_nextStream I b c e).2) (b + 1)) c e ep lg from WfM_eq (fX4_nextStream_ne (by omega)) hWm).2.2.2.2.2
  refine lv_istore_n (lv' := [(1, .int (nI s0)), (0, .ref b)]) hx hb dX4_sendNext_4 rfl hl (by decide) rfl (fun ls hl => ?_)
  refine lv_aload_n hx hb dX4_sendNext_5 rfl (lv_at hl 1 rfl) ?_
  refine lv_iload_n hx hb dX4_sendNext_6 rfl (lv_at hl 0 rfl) ?_
  refine lv_iconst (v := nI 0) hx hb dX4_sendNext_7 (by decide) ?_
  refine lv_iconst (v := nI 0) hx hb dX4_sendNext_8 (by decide) ?_
  refine mr_callV (As := [.int (nI s0), .int (nI 0), .int (nI 0)]) C0 (ctX4_frameAt_t (I := ((fX4_nextStream I b c e).2)) (J := J) (b := b) (s0 := s0) (k0 := 0) (w0 := 0) hMo (by omega)) (cwV 3 C0.1.2.2.2.2 gX4_sendNext_X4_frameAt rfl rfl rfl (by decide +kernel) (by rw [hR]; exact ⟨Nat.le_of_ble_eq_true rfl, Nat.le_of_ble_eq_true rfl⟩)) hM hMo.1.1 hMo.1.2 rfl rfl hM hS rfl rfl rfl hl.1 (Nat.le_of_ble_eq_true rfl) dX4_sendNext_9 (by rw [hR]; exact ⟨Nat.zero_le _, Nat.zero_le _⟩) (fun H locs hM hS => ?_)
  refine lv_istore_n (lv' := [(2, .int (((fX4_nextStream I b c e).2) (b + 1) (32 + 18 * s0 + 3 * 0 + 0))), (1, .int (nI s0)), (0, .ref b)]) hx hb dX4_sendNext_12 rfl hl (by decide) rfl (fun ls hl => ?_)
  refine lv_aload_n hx hb dX4_sendNext_13 rfl (lv_at hl 2 rfl) ?_
  refine mr_getr (r := b + 1) (TT := TX4) (N := 10) C0 uX4_sendNext_X4 hM hMo.1.1 hMo.1.2 rfl 0 (by decide) rfl kX4_sendNext_f7 rfl dX4_sendNext_14 ?_
  refine lv_sipush (v := nI 267) hx hb dX4_sendNext_17 (by decide) ?_
  refine mr_ialdN (v := nI lg) C0 hM hMo.2.1.1 hMo.2.1.2 (by decide) (by decide) (show WfM (((fX4_nextStream I b c e).2) (b + 1)) c e ep lg from WfM_eq (fX4_nextStream_ne (by omega)) hWm).2.2.2.2.1 dX4_sendNext_20 ?_
  refine lv_bipush (v := nI 40) hx hb dX4_sendNext_21 (by decide) ?_
  refine mr_neN (x := lg) (y := 40) (tgt := 75) C0 dX4_sendNext_23 (by decide) (by omega) (by omega) (fun c3 => ?_) (fun c3 => ?_)
  · skip
    refine lv_sipush (v := nI 268) hx hb dX4_sendNext_75 (by decide) ?_
    refine lv_iconst (v := nI 4) hx hb dX4_sendNext_78 (by decide) ?_
    refine lv_aload_n hx hb dX4_sendNext_79 rfl (lv_at hl 2 rfl) ?_
    refine mr_getr (r := b + 1) (TT := TX4) (N := 10) C0 uX4_sendNext_X4 hM hMo.1.1 hMo.1.2 rfl 0 (by decide) rfl kX4_sendNext_f7 rfl dX4_sendNext_80 ?_
    refine lv_sipush (v := nI 267) hx hb dX4_sendNext_83 (by decide) ?_
    refine mr_ialdN (v := nI lg) C0 hM hMo.2.1.1 hMo.2.1.2 (by decide) (by decide) (show WfM (((fX4_nextStream I b c e).2) (b + 1)) c e ep lg from WfM_eq (fX4_nextStream_ne (by omega)) hWm).2.2.2.2.1 dX4_sendNext_86 ?_
    refine mr_imulN (z := 4 * lg) C0 rfl dX4_sendNext_87 ?_
    refine mr_iaddN (z := 268 + 4 * lg) C0 rfl dX4_sendNext_88 ?_
    refine lv_istore_n (lv' := [(3, .int (nI (268 + 4 * lg))), (2, .int (((fX4_nextStream I b c e).2) (b + 1) (32 + 18 * s0 + 3 * 0 + 0))), (1, .int (nI s0)), (0, .ref b)]) hx hb dX4_sendNext_89 rfl hl (by decide) rfl (fun ls hl => ?_)
    refine lv_aload_n hx hb dX4_sendNext_90 rfl (lv_at hl 3 rfl) ?_
    refine mr_getr (r := b + 1) (TT := TX4) (N := 10) C0 uX4_sendNext_X4 hM hMo.1.1 hMo.1.2 rfl 0 (by decide) rfl kX4_sendNext_f7 rfl dX4_sendNext_91 ?_
    refine lv_iload_n hx hb dX4_sendNext_94 rfl (lv_at hl 0 rfl) ?_
    refine lv_iload_n hx hb dX4_sendNext_95 rfl (lv_at hl 1 rfl) ?_
    refine mr_iastN C0 hM hS hMo.2.1.1 hMo.2.1.2 (by decide) (by omega) dX4_sendNext_96 (fun H locs hM hS => ?_)
    refine lv_aload_n hx hb dX4_sendNext_97 rfl (lv_at hl 3 rfl) ?_
    refine mr_getr (r := b + 1) (TT := TX4) (N := 10) C0 uX4_sendNext_X4 hM hMo.1.1 hMo.1.2 rfl 0 (by decide) rfl kX4_sendNext_f7 rfl dX4_sendNext_98 ?_
    refine lv_iload_n hx hb dX4_sendNext_101 rfl (lv_at hl 0 rfl) ?_
    refine lv_iconst (v := nI 1) hx hb dX4_sendNext_102 (by decide) ?_
    refine mr_iaddN (z := 268 + 4 * lg + 1) C0 rfl dX4_sendNext_103 ?_
    refine lv_iload_n hx hb dX4_sendNext_104 rfl (lv_at hl 2 rfl) ?_
    refine mr_iastN C0 hM hS hMo.2.1.1 hMo.2.1.2 (by decide) (by omega) dX4_sendNext_105 (fun H locs hM hS => ?_)
    refine lv_aload_n hx hb dX4_sendNext_106 rfl (lv_at hl 3 rfl) ?_
    refine mr_getr (r := b + 1) (TT := TX4) (N := 10) C0 uX4_sendNext_X4 hM hMo.1.1 hMo.1.2 rfl 0 (by decide) rfl kX4_sendNext_f7 rfl dX4_sendNext_107 ?_
    refine lv_iload_n hx hb dX4_sendNext_110 rfl (lv_at hl 0 rfl) ?_
    refine lv_iconst (v := nI 2) hx hb dX4_sendNext_111 (by decide) ?_
    refine mr_iaddN (z := 268 + 4 * lg + 2) C0 rfl dX4_sendNext_112 ?_
    refine lv_aload_n hx hb dX4_sendNext_113 rfl (lv_at hl 3 rfl) ?_
    refine lv_iload_n hx hb dX4_sendNext_114 rfl (lv_at hl 2 rfl) ?_
    refine lv_iconst (v := nI 0) hx hb dX4_sendNext_115 (by decide) ?_
    refine lv_iconst (v := nI 1) hx hb dX4_sendNext_116 (by decide) ?_
    refine mr_callV (As := [.int (nI s0), .int (nI 0), .int (nI 1)]) C0 (ctX4_frameAt_t (I := (hm_put (hm_put ((fX4_nextStream I b c e).2) (b + 1) (268 + 4 * lg) (((fX4_nextStream I b c e).2) (b + 1) (32 + 18 * s0 + 3 * 0 + 0))) (b + 1) (268 + 4 * lg + 1) (nI s0))) (J := J) (b := b) (s0 := s0) (k0 := 0) (w0 := 1) hMo (by omega)) (cwV 3 C0.1.2.2.2.2 gX4_sendNext_X4_frameAt rfl rfl rfl (by decide +kernel) (by rw [hR]; exact ⟨Nat.le_of_ble_eq_true rfl, Nat.le_of_ble_eq_true rfl⟩)) hM hMo.1.1 hMo.1.2 rfl rfl hM hS rfl rfl rfl hl.1 (Nat.le_of_ble_eq_true rfl) dX4_sendNext_117 (by rw [hR]; exact ⟨Nat.zero_le _, Nat.zero_le _⟩) (fun H locs hM hS => ?_)
    refine mr_iastN C0 hM hS hMo.2.1.1 hMo.2.1.2 (by decide) (by omega) dX4_sendNext_120 (fun H locs hM hS => ?_)
    refine lv_aload_n hx hb dX4_sendNext_121 rfl (lv_at hl 3 rfl) ?_
    refine mr_getr (r := b + 1) (TT := TX4) (N := 10) C0 uX4_sendNext_X4 hM hMo.1.1 hMo.1.2 rfl 0 (by decide) rfl kX4_sendNext_f7 rfl dX4_sendNext_122 ?_
    refine lv_iload_n hx hb dX4_sendNext_125 rfl (lv_at hl 0 rfl) ?_
    refine lv_iconst (v := nI 3) hx hb dX4_sendNext_126 (by decide) ?_
    refine mr_iaddN (z := 268 + 4 * lg + 3) C0 rfl dX4_sendNext_127 ?_
    refine lv_aload_n hx hb dX4_sendNext_128 rfl (lv_at hl 3 rfl) ?_
    refine lv_iload_n hx hb dX4_sendNext_129 rfl (lv_at hl 2 rfl) ?_
    refine lv_iconst (v := nI 0) hx hb dX4_sendNext_130 (by decide) ?_
    refine lv_iconst (v := nI 2) hx hb dX4_sendNext_131 (by decide) ?_
    refine mr_callV (As := [.int (nI s0), .int (nI 0), .int (nI 2)]) C0 (ctX4_frameAt_t (I := (hm_put (hm_put (hm_put ((fX4_nextStream I b c e).2) (b + 1) (268 + 4 * lg) (((fX4_nextStream I b c e).2) (b + 1) (32 + 18 * s0 + 3 * 0 + 0))) (b + 1) (268 + 4 * lg + 1) (nI s0)) (b + 1) (268 + 4 * lg + 2) ((hm_put (hm_put ((fX4_nextStream I b c e).2) (b + 1) (268 + 4 * lg) (((fX4_nextStream I b c e).2) (b + 1) (32 + 18 * s0 + 3 * 0 + 0))) (b + 1) (268 + 4 * lg + 1) (nI s0)) (b + 1) (32 + 18 * s0 + 3 * 0 + 1)))) (J := J) (b := b) (s0 := s0) (k0 := 0) (w0 := 2) hMo (by omega)) (cwV 3 C0.1.2.2.2.2 gX4_sendNext_X4_frameAt rfl rfl rfl (by decide +kernel) (by rw [hR]; exact ⟨Nat.le_of_ble_eq_true rfl, Nat.le_of_ble_eq_true rfl⟩)) hM hMo.1.1 hMo.1.2 rfl rfl hM hS rfl rfl rfl hl.1 (Nat.le_of_ble_eq_true rfl) dX4_sendNext_132 (by rw [hR]; exact ⟨Nat.zero_le _, Nat.zero_le _⟩) (fun H locs hM hS => ?_)
    refine mr_iastN C0 hM hS hMo.2.1.1 hMo.2.1.2 (by decide) (by omega) dX4_sendNext_135 (fun H locs hM hS => ?_)
    refine lv_aload_n hx hb dX4_sendNext_136 rfl (lv_at hl 3 rfl) ?_
    refine mr_getr (r := b + 1) (TT := TX4) (N := 10) C0 uX4_sendNext_X4 hM hMo.1.1 hMo.1.2 rfl 0 (by decide) rfl kX4_sendNext_f7 rfl dX4_sendNext_137 ?_
    refine lv_sipush (v := nI 267) hx hb dX4_sendNext_140 (by decide) ?_
    refine lv_dup2_11 hx hb dX4_sendNext_143 rfl rfl ?_
    refine mr_ialdN (v := nI lg) C0 hM hMo.2.1.1 hMo.2.1.2 (by decide) (by decide) ((hm_put_get (by omega)).trans ((hm_put_get (by omega)).trans ((hm_put_get (by omega)).trans ((hm_put_get (by omega)).trans (show WfM (((fX4_nextStream I b c e).2) (b + 1)) c e ep lg from WfM_eq (fX4_nextStream_ne (by omega)) hWm).2.2.2.2.1)))) dX4_sendNext_144 ?_
    refine lv_iconst (v := nI 1) hx hb dX4_sendNext_145 (by decide) ?_
    refine mr_iaddN (z := lg + 1) C0 rfl dX4_sendNext_146 ?_
    refine mr_iastN C0 hM hS hMo.2.1.1 hMo.2.1.2 (by decide) (by decide) dX4_sendNext_147 (fun H locs hM hS => ?_)
    refine lv_aload_n hx hb dX4_sendNext_148 rfl (lv_at hl 3 rfl) ?_
    refine mr_getr (r := b + 1) (TT := TX4) (N := 10) C0 uX4_sendNext_X4 hM hMo.1.1 hMo.1.2 rfl 0 (by decide) rfl kX4_sendNext_f7 rfl dX4_sendNext_149 ?_
    refine lv_sipush (v := nI 266) hx hb dX4_sendNext_152 (by decide) ?_
    refine lv_dup2_11 hx hb dX4_sendNext_155 rfl rfl ?_
    refine mr_ialdN (v := ((fX4_nextStream I b c e).2) (b + 1) 266) C0 hM hMo.2.1.1 hMo.2.1.2 (by decide) (by decide) ((hm_put_get (by omega)).trans ((hm_put_get (by omega)).trans ((hm_put_get (by omega)).trans ((hm_put_get (by omega)).trans (hm_put_get (by omega)))))) dX4_sendNext_156 ?_
    refine lv_iconst (v := nI 1) hx hb dX4_sendNext_157 (by decide) ?_
    refine lv_iadd hx hb dX4_sendNext_158 ?_
    refine mr_iastN C0 hM hS hMo.2.1.1 hMo.2.1.2 (by decide) (by decide) dX4_sendNext_159 (fun H locs hM hS => ?_)
    refine lv_aload_n hx hb dX4_sendNext_160 rfl (lv_at hl 3 rfl) ?_
    refine mr_getr (r := b + 1) (TT := TX4) (N := 10) C0 uX4_sendNext_X4 hM hMo.1.1 hMo.1.2 rfl 0 (by decide) rfl kX4_sendNext_f7 rfl dX4_sendNext_161 ?_
    refine lv_bipush (v := nI 16) hx hb dX4_sendNext_164 (by decide) ?_
    refine lv_iload_n hx hb dX4_sendNext_166 rfl (lv_at hl 2 rfl) ?_
    refine mr_iaddN (z := 16 + s0) C0 rfl dX4_sendNext_167 ?_
    refine lv_dup2_11 hx hb dX4_sendNext_168 rfl rfl ?_
    refine mr_ialdN (v := ((fX4_nextStream I b c e).2) (b + 1) (16 + s0)) C0 hM hMo.2.1.1 hMo.2.1.2 (by decide) (by omega) ((hm_put_get (by omega)).trans ((hm_put_get (by omega)).trans ((hm_put_get (by omega)).trans ((hm_put_get (by omega)).trans ((hm_put_get (by omega)).trans (hm_put_get (by omega))))))) dX4_sendNext_169 ?_
    refine lv_aload_n hx hb dX4_sendNext_170 rfl (lv_at hl 3 rfl) ?_
    refine lv_iload_n hx hb dX4_sendNext_171 rfl (lv_at hl 2 rfl) ?_
    refine lv_iconst (v := nI 0) hx hb dX4_sendNext_172 (by decide) ?_
    refine lv_iconst (v := nI 1) hx hb dX4_sendNext_173 (by decide) ?_
    refine mr_callV (As := [.int (nI s0), .int (nI 0), .int (nI 1)]) C0 (ctX4_frameAt_t (I := (hm_put (hm_put (hm_put (hm_put (hm_put (hm_put ((fX4_nextStream I b c e).2) (b + 1) (268 + 4 * lg) (((fX4_nextStream I b c e).2) (b + 1) (32 + 18 * s0 + 3 * 0 + 0))) (b + 1) (268 + 4 * lg + 1) (nI s0)) (b + 1) (268 + 4 * lg + 2) ((hm_put (hm_put ((fX4_nextStream I b c e).2) (b + 1) (268 + 4 * lg) (((fX4_nextStream I b c e).2) (b + 1) (32 + 18 * s0 + 3 * 0 + 0))) (b + 1) (268 + 4 * lg + 1) (nI s0)) (b + 1) (32 + 18 * s0 + 3 * 0 + 1))) (b + 1) (268 + 4 * lg + 3) ((hm_put (hm_put (hm_put ((fX4_nextStream I b c e).2) (b + 1) (268 + 4 * lg) (((fX4_nextStream I b c e).2) (b + 1) (32 + 18 * s0 + 3 * 0 + 0))) (b + 1) (268 + 4 * lg + 1) (nI s0)) (b + 1) (268 + 4 * lg + 2) ((hm_put (hm_put ((fX4_nextStream I b c e).2) (b + 1) (268 + 4 * lg) (((fX4_nextStream I b c e).2) (b + 1) (32 + 18 * s0 + 3 * 0 + 0))) (b + 1) (268 + 4 * lg + 1) (nI s0)) (b + 1) (32 + 18 * s0 + 3 * 0 + 1))) (b + 1) (32 + 18 * s0 + 3 * 0 + 2))) (b + 1) 267 (nI (lg + 1))) (b + 1) 266 ((((fX4_nextStream I b c e).2) (b + 1) 266) + (nI 1)))) (J := J) (b := b) (s0 := s0) (k0 := 0) (w0 := 1) hMo (by omega)) (cwV 3 C0.1.2.2.2.2 gX4_sendNext_X4_frameAt rfl rfl rfl (by decide +kernel) (by rw [hR]; exact ⟨Nat.le_of_ble_eq_true rfl, Nat.le_of_ble_eq_true rfl⟩)) hM hMo.1.1 hMo.1.2 rfl rfl hM hS rfl rfl rfl hl.1 (Nat.le_of_ble_eq_true rfl) dX4_sendNext_174 (by rw [hR]; exact ⟨Nat.zero_le _, Nat.zero_le _⟩) (fun H locs hM hS => ?_)
    refine lv_iadd hx hb dX4_sendNext_177 ?_
    refine mr_iastN C0 hM hS hMo.2.1.1 hMo.2.1.2 (by decide) (by omega) dX4_sendNext_178 (fun H locs hM hS => ?_)
    refine lv_aload_n hx hb dX4_sendNext_179 rfl (lv_at hl 3 rfl) ?_
    refine mr_getr (r := b + 1) (TT := TX4) (N := 10) C0 uX4_sendNext_X4 hM hMo.1.1 hMo.1.2 rfl 0 (by decide) rfl kX4_sendNext_f7 rfl dX4_sendNext_180 ?_
    refine lv_bipush (v := nI 24) hx hb dX4_sendNext_183 (by decide) ?_
    refine lv_iload_n hx hb dX4_sendNext_185 rfl (lv_at hl 2 rfl) ?_
    refine mr_iaddN (z := 24 + s0) C0 rfl dX4_sendNext_186 ?_
    refine lv_dup2_11 hx hb dX4_sendNext_187 rfl rfl ?_
    refine mr_ialdN (v := nI (c s0)) C0 hM hMo.2.1.1 hMo.2.1.2 (by decide) (by omega) ((hm_put_get (by omega)).trans ((hm_put_get (by omega)).trans ((hm_put_get (by omega)).trans ((hm_put_get (by omega)).trans ((hm_put_get (by omega)).trans ((hm_put_get (by omega)).trans ((hm_put_get (by omega)).trans hw1.1))))))) dX4_sendNext_188 ?_
    refine lv_iconst (v := nI 1) hx hb dX4_sendNext_189 (by decide) ?_
    refine mr_isubN (z := (c s0 - 1)) C0 (by omega) dX4_sendNext_190 ?_
    refine mr_iastN C0 hM hS hMo.2.1.1 hMo.2.1.2 (by decide) (by omega) dX4_sendNext_191 (fun H locs hM hS => ?_)
    refine lv_iconst (v := nI 0) hx hb dX4_sendNext_192 (by decide) ?_
    refine lv_istore (lv' := [(4, .int (nI 0)), (3, .int (nI (268 + 4 * lg))), (2, .int (((fX4_nextStream I b c e).2) (b + 1) (32 + 18 * s0 + 3 * 0 + 0))), (1, .int (nI s0)), (0, .ref b)]) hx hb dX4_sendNext_193 hl (by decide) rfl (fun ls hl => ?_)
    refine lp_loop (σ := hm_I) (fun i195 x195 => ∀ (H : Heap) (locs : List Loc) (ls : Array Slot), hm D T L A Sh x195 J H → va_S A s_.heap H locs → lv_has ls 5 [(0, .ref b), (1, .int (nI s0)), (2, .int (((fX4_nextStream I b c e).2) (b + 1) (32 + 18 * s0 + 3 * 0 + 0))), (4, .int (nI i195))] → W p_ l e_ R s_ m_ args_ below_ meth_ c_ H locs 0 0 Qq (F0 m_ 195 ls [])) (3 * (c s0 - 1)) (fun i195 x195 => hm_put x195 (b + 1) (32 + 18 * s0 + i195) (x195 (b + 1) (32 + 18 * s0 + i195 + 3))) (hm_put (hm_put (hm_put (hm_put (hm_put (hm_put (hm_put (hm_put ((fX4_nextStream I b c e).2) (b + 1) (268 + 4 * lg) (((fX4_nextStream I b c e).2) (b + 1) (32 + 18 * s0 + 3 * 0 + 0))) (b + 1) (268 + 4 * lg + 1) (nI s0)) (b + 1) (268 + 4 * lg + 2) ((hm_put (hm_put ((fX4_nextStream I b c e).2) (b + 1) (268 + 4 * lg) (((fX4_nextStream I b c e).2) (b + 1) (32 + 18 * s0 + 3 * 0 + 0))) (b + 1) (268 + 4 * lg + 1) (nI s0)) (b + 1) (32 + 18 * s0 + 3 * 0 + 1))) (b + 1) (268 + 4 * lg + 3) ((hm_put (hm_put (hm_put ((fX4_nextStream I b c e).2) (b + 1) (268 + 4 * lg) (((fX4_nextStream I b c e).2) (b + 1) (32 + 18 * s0 + 3 * 0 + 0))) (b + 1) (268 + 4 * lg + 1) (nI s0)) (b + 1) (268 + 4 * lg + 2) ((hm_put (hm_put ((fX4_nextStream I b c e).2) (b + 1) (268 + 4 * lg) (((fX4_nextStream I b c e).2) (b + 1) (32 + 18 * s0 + 3 * 0 + 0))) (b + 1) (268 + 4 * lg + 1) (nI s0)) (b + 1) (32 + 18 * s0 + 3 * 0 + 1))) (b + 1) (32 + 18 * s0 + 3 * 0 + 2))) (b + 1) 267 (nI (lg + 1))) (b + 1) 266 ((((fX4_nextStream I b c e).2) (b + 1) 266) + (nI 1))) (b + 1) (16 + s0) ((((fX4_nextStream I b c e).2) (b + 1) (16 + s0)) + ((hm_put (hm_put (hm_put (hm_put (hm_put (hm_put ((fX4_nextStream I b c e).2) (b + 1) (268 + 4 * lg) (((fX4_nextStream I b c e).2) (b + 1) (32 + 18 * s0 + 3 * 0 + 0))) (b + 1) (268 + 4 * lg + 1) (nI s0)) (b + 1) (268 + 4 * lg + 2) ((hm_put (hm_put ((fX4_nextStream I b c e).2) (b + 1) (268 + 4 * lg) (((fX4_nextStream I b c e).2) (b + 1) (32 + 18 * s0 + 3 * 0 + 0))) (b + 1) (268 + 4 * lg + 1) (nI s0)) (b + 1) (32 + 18 * s0 + 3 * 0 + 1))) (b + 1) (268 + 4 * lg + 3) ((hm_put (hm_put (hm_put ((fX4_nextStream I b c e).2) (b + 1) (268 + 4 * lg) (((fX4_nextStream I b c e).2) (b + 1) (32 + 18 * s0 + 3 * 0 + 0))) (b + 1) (268 + 4 * lg + 1) (nI s0)) (b + 1) (268 + 4 * lg + 2) ((hm_put (hm_put ((fX4_nextStream I b c e).2) (b + 1) (268 + 4 * lg) (((fX4_nextStream I b c e).2) (b + 1) (32 + 18 * s0 + 3 * 0 + 0))) (b + 1) (268 + 4 * lg + 1) (nI s0)) (b + 1) (32 + 18 * s0 + 3 * 0 + 1))) (b + 1) (32 + 18 * s0 + 3 * 0 + 2))) (b + 1) 267 (nI (lg + 1))) (b + 1) 266 ((((fX4_nextStream I b c e).2) (b + 1) 266) + (nI 1))) (b + 1) (32 + 18 * s0 + 3 * 0 + 1)))) (b + 1) (24 + s0) (nI (c s0 - 1))) (fun (i195 : Nat) (x195 : hm_I) => x195 (b + 1) (24 + s0) = nI (c s0 - 1)) (hm_put_at _ _ _ _) (fun i x hi hv => (hm_put_get (by omega)).trans hv) (fun i195 x195 hi4 hv5 k6 H locs ls hM hS hl => ?_) (fun hv5 H locs ls hM hS hl => ?_) _ _ _ hM hS (lv_sub hl [4, 3, 2, 0] rfl)
    · have stp7 : ∀ yy_ : hm_I, yy_ = (hm_put x195 (b + 1) (32 + 18 * s0 + i195) (x195 (b + 1) (32 + 18 * s0 + i195 + 3))) → ∀ (H : Heap) (locs : List Loc) (ls : Array Slot), hm D T L A Sh yy_ J H → va_S A s_.heap H locs → lv_has ls 5 [(0, .ref b), (1, .int (nI s0)), (2, .int (((fX4_nextStream I b c e).2) (b + 1) (32 + 18 * s0 + 3 * 0 + 0))), (4, .int (nI (i195 + 1)))] → W p_ l e_ R s_ m_ args_ below_ meth_ c_ H locs 0 0 Qq (F0 m_ 195 ls []) := fun yy_ ey => by rw [ey]; exact k6
      refine lv_iload hx hb dX4_sendNext_195 (lv_at hl 3 rfl) ?_
      refine lv_iconst (v := nI 3) hx hb dX4_sendNext_197 (by decide) ?_
      refine lv_aload_n hx hb dX4_sendNext_198 rfl (lv_at hl 0 rfl) ?_
      refine mr_getr (r := b + 1) (TT := TX4) (N := 10) C0 uX4_sendNext_X4 hM hMo.1.1 hMo.1.2 rfl 0 (by decide) rfl kX4_sendNext_f7 rfl dX4_sendNext_199 ?_
      refine lv_bipush (v := nI 24) hx hb dX4_sendNext_202 (by decide) ?_
      refine lv_iload_n hx hb dX4_sendNext_204 rfl (lv_at hl 1 rfl) ?_
      refine mr_iaddN (z := 24 + s0) C0 rfl dX4_sendNext_205 ?_
      refine mr_ialdN (v := nI (c s0 - 1)) C0 hM hMo.2.1.1 hMo.2.1.2 (by decide) (by omega) hv5 dX4_sendNext_206 ?_
      refine mr_imulN (z := 3 * (c s0 - 1)) C0 rfl dX4_sendNext_207 ?_
      refine mr_geN (x := i195) (y := 3 * (c s0 - 1)) (tgt := 249) C0 dX4_sendNext_208 (by decide) (by omega) (by omega) (fun c8 => absurd c8 (by omega)) (fun c8 => ?_)
      refine lv_aload_n hx hb dX4_sendNext_211 rfl (lv_at hl 0 rfl) ?_
      refine mr_getr (r := b + 1) (TT := TX4) (N := 10) C0 uX4_sendNext_X4 hM hMo.1.1 hMo.1.2 rfl 0 (by decide) rfl kX4_sendNext_f7 rfl dX4_sendNext_212 ?_
      refine lv_bipush (v := nI 32) hx hb dX4_sendNext_215 (by decide) ?_
      refine lv_bipush (v := nI 18) hx hb dX4_sendNext_217 (by decide) ?_
      refine lv_iload_n hx hb dX4_sendNext_219 rfl (lv_at hl 1 rfl) ?_
      refine mr_imulN (z := 18 * s0) C0 rfl dX4_sendNext_220 ?_
      refine mr_iaddN (z := 32 + 18 * s0) C0 rfl dX4_sendNext_221 ?_
      refine lv_iload hx hb dX4_sendNext_222 (lv_at hl 3 rfl) ?_
      refine mr_iaddN (z := 32 + 18 * s0 + i195) C0 rfl dX4_sendNext_224 ?_
      refine lv_aload_n hx hb dX4_sendNext_225 rfl (lv_at hl 0 rfl) ?_
      refine mr_getr (r := b + 1) (TT := TX4) (N := 10) C0 uX4_sendNext_X4 hM hMo.1.1 hMo.1.2 rfl 0 (by decide) rfl kX4_sendNext_f7 rfl dX4_sendNext_226 ?_
      refine lv_bipush (v := nI 32) hx hb dX4_sendNext_229 (by decide) ?_
      refine lv_bipush (v := nI 18) hx hb dX4_sendNext_231 (by decide) ?_
      refine lv_iload_n hx hb dX4_sendNext_233 rfl (lv_at hl 1 rfl) ?_
      refine mr_imulN (z := 18 * s0) C0 rfl dX4_sendNext_234 ?_
      refine mr_iaddN (z := 32 + 18 * s0) C0 rfl dX4_sendNext_235 ?_
      refine lv_iload hx hb dX4_sendNext_236 (lv_at hl 3 rfl) ?_
      refine mr_iaddN (z := 32 + 18 * s0 + i195) C0 rfl dX4_sendNext_238 ?_
      refine lv_iconst (v := nI 3) hx hb dX4_sendNext_239 (by decide) ?_
      refine mr_iaddN (z := 32 + 18 * s0 + i195 + 3) C0 rfl dX4_sendNext_240 ?_
      refine mr_ialdN (v := x195 (b + 1) (32 + 18 * s0 + i195 + 3)) C0 hM hMo.2.1.1 hMo.2.1.2 (by decide) (by omega) rfl dX4_sendNext_241 ?_
      refine mr_iastN C0 hM hS hMo.2.1.1 hMo.2.1.2 (by decide) (by omega) dX4_sendNext_242 (fun H locs hM hS => ?_)
      refine lv_iinc (v := nI (i195 + 1)) (lv' := [(4, .int (nI (i195 + 1))), (0, .ref b), (1, .int (nI s0)), (2, .int (((fX4_nextStream I b c e).2) (b + 1) (32 + 18 * s0 + 3 * 0 + 0)))]) hx hb dX4_sendNext_243 hl (k := 3) rfl (nI_1 _) (by decide) rfl (fun ls hl => ?_)
      refine lv_goto (tgt := 195) hx hb dX4_sendNext_246 (by decide) ?_
      exact stp7 (hm_put x195 (b + 1) (32 + 18 * s0 + i195) (x195 (b + 1) (32 + 18 * s0 + i195 + 3))) rfl H locs ls hM hS (lv_sub hl [1, 2, 3, 0] rfl)
    · skip
      refine lv_iload hx hb dX4_sendNext_195 (lv_at hl 3 rfl) ?_
      refine lv_iconst (v := nI 3) hx hb dX4_sendNext_197 (by decide) ?_
      refine lv_aload_n hx hb dX4_sendNext_198 rfl (lv_at hl 0 rfl) ?_
      refine mr_getr (r := b + 1) (TT := TX4) (N := 10) C0 uX4_sendNext_X4 hM hMo.1.1 hMo.1.2 rfl 0 (by decide) rfl kX4_sendNext_f7 rfl dX4_sendNext_199 ?_
      refine lv_bipush (v := nI 24) hx hb dX4_sendNext_202 (by decide) ?_
      refine lv_iload_n hx hb dX4_sendNext_204 rfl (lv_at hl 1 rfl) ?_
      refine mr_iaddN (z := 24 + s0) C0 rfl dX4_sendNext_205 ?_
      refine mr_ialdN (v := nI (c s0 - 1)) C0 hM hMo.2.1.1 hMo.2.1.2 (by decide) (by omega) hv5 dX4_sendNext_206 ?_
      refine mr_imulN (z := 3 * (c s0 - 1)) C0 rfl dX4_sendNext_207 ?_
      refine mr_geN (x := (3 * (c s0 - 1))) (y := 3 * (c s0 - 1)) (tgt := 249) C0 dX4_sendNext_208 (by decide) (by omega) (by omega) (fun c9 => ?_) (fun c9 => absurd c9 (by omega))
      refine lv_iload_n hx hb dX4_sendNext_249 rfl (lv_at hl 2 rfl) ?_
      have eF : (((fX4_nextStream I b c e).2) (b + 1) (32 + 18 * s0 + 3 * 0 + 0), (lp (3 * (c s0 - 1)) (fun i195 x195 => hm_put x195 (b + 1) (32 + 18 * s0 + i195) (x195 (b + 1) (32 + 18 * s0 + i195 + 3))) (hm_put (hm_put (hm_put (hm_put (hm_put (hm_put (hm_put (hm_put ((fX4_nextStream I b c e).2) (b + 1) (268 + 4 * lg) (((fX4_nextStream I b c e).2) (b + 1) (32 + 18 * s0 + 3 * 0 + 0))) (b + 1) (268 + 4 * lg + 1) (nI s0)) (b + 1) (268 + 4 * lg + 2) ((hm_put (hm_put ((fX4_nextStream I b c e).2) (b + 1) (268 + 4 * lg) (((fX4_nextStream I b c e).2) (b + 1) (32 + 18 * s0 + 3 * 0 + 0))) (b + 1) (268 + 4 * lg + 1) (nI s0)) (b + 1) (32 + 18 * s0 + 3 * 0 + 1))) (b + 1) (268 + 4 * lg + 3) ((hm_put (hm_put (hm_put ((fX4_nextStream I b c e).2) (b + 1) (268 + 4 * lg) (((fX4_nextStream I b c e).2) (b + 1) (32 + 18 * s0 + 3 * 0 + 0))) (b + 1) (268 + 4 * lg + 1) (nI s0)) (b + 1) (268 + 4 * lg + 2) ((hm_put (hm_put ((fX4_nextStream I b c e).2) (b + 1) (268 + 4 * lg) (((fX4_nextStream I b c e).2) (b + 1) (32 + 18 * s0 + 3 * 0 + 0))) (b + 1) (268 + 4 * lg + 1) (nI s0)) (b + 1) (32 + 18 * s0 + 3 * 0 + 1))) (b + 1) (32 + 18 * s0 + 3 * 0 + 2))) (b + 1) 267 (nI (lg + 1))) (b + 1) 266 ((((fX4_nextStream I b c e).2) (b + 1) 266) + (nI 1))) (b + 1) (16 + s0) ((((fX4_nextStream I b c e).2) (b + 1) (16 + s0)) + ((hm_put (hm_put (hm_put (hm_put (hm_put (hm_put ((fX4_nextStream I b c e).2) (b + 1) (268 + 4 * lg) (((fX4_nextStream I b c e).2) (b + 1) (32 + 18 * s0 + 3 * 0 + 0))) (b + 1) (268 + 4 * lg + 1) (nI s0)) (b + 1) (268 + 4 * lg + 2) ((hm_put (hm_put ((fX4_nextStream I b c e).2) (b + 1) (268 + 4 * lg) (((fX4_nextStream I b c e).2) (b + 1) (32 + 18 * s0 + 3 * 0 + 0))) (b + 1) (268 + 4 * lg + 1) (nI s0)) (b + 1) (32 + 18 * s0 + 3 * 0 + 1))) (b + 1) (268 + 4 * lg + 3) ((hm_put (hm_put (hm_put ((fX4_nextStream I b c e).2) (b + 1) (268 + 4 * lg) (((fX4_nextStream I b c e).2) (b + 1) (32 + 18 * s0 + 3 * 0 + 0))) (b + 1) (268 + 4 * lg + 1) (nI s0)) (b + 1) (268 + 4 * lg + 2) ((hm_put (hm_put ((fX4_nextStream I b c e).2) (b + 1) (268 + 4 * lg) (((fX4_nextStream I b c e).2) (b + 1) (32 + 18 * s0 + 3 * 0 + 0))) (b + 1) (268 + 4 * lg + 1) (nI s0)) (b + 1) (32 + 18 * s0 + 3 * 0 + 1))) (b + 1) (32 + 18 * s0 + 3 * 0 + 2))) (b + 1) 267 (nI (lg + 1))) (b + 1) 266 ((((fX4_nextStream I b c e).2) (b + 1) 266) + (nI 1))) (b + 1) (32 + 18 * s0 + 3 * 0 + 1)))) (b + 1) (24 + s0) (nI (c s0 - 1))))) = fX4_sendNext_t I b c e lg s0 := by unfold fX4_sendNext_t; rw [if_neg c3]
      exact mr_iret (v := ((fX4_nextStream I b c e).2) (b + 1) (32 + 18 * s0 + 3 * 0 + 0)) C0 hr hlk hQ hS (by rw [← eF]) (by rw [← eF]; exact hM) (Nat.le_refl _) (Nat.le_refl _) dX4_sendNext_250
  · skip
    refine lv_iconst (v := nI 0) hx hb dX4_sendNext_26 (by decide) ?_
    refine lv_istore_n (lv' := [(3, .int (nI 0)), (2, .int (((fX4_nextStream I b c e).2) (b + 1) (32 + 18 * s0 + 3 * 0 + 0))), (1, .int (nI s0)), (0, .ref b)]) hx hb dX4_sendNext_27 rfl hl (by decide) rfl (fun ls hl => ?_)
    refine lp_loop (σ := hm_I) (fun i28 x28 => ∀ (H : Heap) (locs : List Loc) (ls : Array Slot), hm D T L A Sh x28 J H → va_S A s_.heap H locs → lv_has ls 5 [(0, .ref b), (1, .int (nI s0)), (2, .int (((fX4_nextStream I b c e).2) (b + 1) (32 + 18 * s0 + 3 * 0 + 0))), (3, .int (nI i28))] → W p_ l e_ R s_ m_ args_ below_ meth_ c_ H locs 0 0 Qq (F0 m_ 28 ls [])) 156 (fun i28 x28 => hm_put x28 (b + 1) (268 + i28) (x28 (b + 1) (268 + i28 + 4))) ((fX4_nextStream I b c e).2) (fun (i28 : Nat) (x28 : hm_I) => x28 (b + 1) (24 + s0) = nI (c s0) ∧ x28 (b + 1) 267 = nI lg) ⟨hw1.1, (show WfM (((fX4_nextStream I b c e).2) (b + 1)) c e ep lg from WfM_eq (fX4_nextStream_ne (by omega)) hWm).2.2.2.2.1⟩ (fun i x hi hv => ⟨(hm_put_get (by omega)).trans hv.1, (hm_put_get (by omega)).trans hv.2⟩) (fun i28 x28 hi10 hv11 k12 H locs ls hM hS hl => ?_) (fun hv11 H locs ls hM hS hl => ?_) _ _ _ hM hS (lv_sub hl [3, 2, 1, 0] rfl)
    · have stp13 : ∀ yy_ : hm_I, yy_ = (hm_put x28 (b + 1) (268 + i28) (x28 (b + 1) (268 + i28 + 4))) → ∀ (H : Heap) (locs : List Loc) (ls : Array Slot), hm D T L A Sh yy_ J H → va_S A s_.heap H locs → lv_has ls 5 [(0, .ref b), (1, .int (nI s0)), (2, .int (((fX4_nextStream I b c e).2) (b + 1) (32 + 18 * s0 + 3 * 0 + 0))), (3, .int (nI (i28 + 1)))] → W p_ l e_ R s_ m_ args_ below_ meth_ c_ H locs 0 0 Qq (F0 m_ 28 ls []) := fun yy_ ey => by rw [ey]; exact k12
      refine lv_iload_n hx hb dX4_sendNext_28 rfl (lv_at hl 3 rfl) ?_
      refine lv_sipush (v := nI 156) hx hb dX4_sendNext_29 (by decide) ?_
      refine mr_geN (x := i28) (y := 156) (tgt := 63) C0 dX4_sendNext_32 (by decide) (by omega) (by omega) (fun c14 => absurd c14 (by omega)) (fun c14 => ?_)
      refine lv_aload_n hx hb dX4_sendNext_35 rfl (lv_at hl 0 rfl) ?_
      refine mr_getr (r := b + 1) (TT := TX4) (N := 10) C0 uX4_sendNext_X4 hM hMo.1.1 hMo.1.2 rfl 0 (by decide) rfl kX4_sendNext_f7 rfl dX4_sendNext_36 ?_
      refine lv_sipush (v := nI 268) hx hb dX4_sendNext_39 (by decide) ?_
      refine lv_iload_n hx hb dX4_sendNext_42 rfl (lv_at hl 3 rfl) ?_
      refine mr_iaddN (z := 268 + i28) C0 rfl dX4_sendNext_43 ?_
      refine lv_aload_n hx hb dX4_sendNext_44 rfl (lv_at hl 0 rfl) ?_
      refine mr_getr (r := b + 1) (TT := TX4) (N := 10) C0 uX4_sendNext_X4 hM hMo.1.1 hMo.1.2 rfl 0 (by decide) rfl kX4_sendNext_f7 rfl dX4_sendNext_45 ?_
      refine lv_sipush (v := nI 268) hx hb dX4_sendNext_48 (by decide) ?_
      refine lv_iload_n hx hb dX4_sendNext_51 rfl (lv_at hl 3 rfl) ?_
      refine mr_iaddN (z := 268 + i28) C0 rfl dX4_sendNext_52 ?_
      refine lv_iconst (v := nI 4) hx hb dX4_sendNext_53 (by decide) ?_
      refine mr_iaddN (z := 268 + i28 + 4) C0 rfl dX4_sendNext_54 ?_
      refine mr_ialdN (v := x28 (b + 1) (268 + i28 + 4)) C0 hM hMo.2.1.1 hMo.2.1.2 (by decide) (by omega) rfl dX4_sendNext_55 ?_
      refine mr_iastN C0 hM hS hMo.2.1.1 hMo.2.1.2 (by decide) (by omega) dX4_sendNext_56 (fun H locs hM hS => ?_)
      refine lv_iinc (v := nI (i28 + 1)) (lv' := [(3, .int (nI (i28 + 1))), (0, .ref b), (1, .int (nI s0)), (2, .int (((fX4_nextStream I b c e).2) (b + 1) (32 + 18 * s0 + 3 * 0 + 0)))]) hx hb dX4_sendNext_57 hl (k := 3) rfl (nI_1 _) (by decide) rfl (fun ls hl => ?_)
      refine lv_goto (tgt := 28) hx hb dX4_sendNext_60 (by decide) ?_
      exact stp13 (hm_put x28 (b + 1) (268 + i28) (x28 (b + 1) (268 + i28 + 4))) rfl H locs ls hM hS (lv_sub hl [1, 2, 3, 0] rfl)
    · skip
      refine lv_iload_n hx hb dX4_sendNext_28 rfl (lv_at hl 3 rfl) ?_
      refine lv_sipush (v := nI 156) hx hb dX4_sendNext_29 (by decide) ?_
      refine mr_geN (x := 156) (y := 156) (tgt := 63) C0 dX4_sendNext_32 (by decide) (by decide) (by decide) (fun _ => ?_) (fun c15 => absurd c15 (by decide))
      refine lv_aload_n hx hb dX4_sendNext_63 rfl (lv_at hl 0 rfl) ?_
      refine mr_getr (r := b + 1) (TT := TX4) (N := 10) C0 uX4_sendNext_X4 hM hMo.1.1 hMo.1.2 rfl 0 (by decide) rfl kX4_sendNext_f7 rfl dX4_sendNext_64 ?_
      refine lv_sipush (v := nI 267) hx hb dX4_sendNext_67 (by decide) ?_
      refine lv_dup2_11 hx hb dX4_sendNext_70 rfl rfl ?_
      refine mr_ialdN (v := nI lg) C0 hM hMo.2.1.1 hMo.2.1.2 (by decide) (by decide) hv11.2 dX4_sendNext_71 ?_
      refine lv_iconst (v := nI 1) hx hb dX4_sendNext_72 (by decide) ?_
      refine mr_isubN (z := (lg - 1)) C0 (by omega) dX4_sendNext_73 ?_
      refine mr_iastN C0 hM hS hMo.2.1.1 hMo.2.1.2 (by decide) (by decide) dX4_sendNext_74 (fun H locs hM hS => ?_)
      refine lv_sipush (v := nI 268) hx hb dX4_sendNext_75 (by decide) ?_
      refine lv_iconst (v := nI 4) hx hb dX4_sendNext_78 (by decide) ?_
      refine lv_aload_n hx hb dX4_sendNext_79 rfl (lv_at hl 0 rfl) ?_
      refine mr_getr (r := b + 1) (TT := TX4) (N := 10) C0 uX4_sendNext_X4 hM hMo.1.1 hMo.1.2 rfl 0 (by decide) rfl kX4_sendNext_f7 rfl dX4_sendNext_80 ?_
      refine lv_sipush (v := nI 267) hx hb dX4_sendNext_83 (by decide) ?_
      refine mr_ialdN (v := nI (lg - 1)) C0 hM hMo.2.1.1 hMo.2.1.2 (by decide) (by decide) (hm_put_at _ _ _ _) dX4_sendNext_86 ?_
      refine mr_imulN (z := 4 * (lg - 1)) C0 rfl dX4_sendNext_87 ?_
      refine mr_iaddN (z := 268 + 4 * (lg - 1)) C0 rfl dX4_sendNext_88 ?_
      refine lv_istore_n (lv' := [(3, .int (nI (268 + 4 * (lg - 1)))), (0, .ref b), (1, .int (nI s0)), (2, .int (((fX4_nextStream I b c e).2) (b + 1) (32 + 18 * s0 + 3 * 0 + 0)))]) hx hb dX4_sendNext_89 rfl hl (by decide) rfl (fun ls hl => ?_)
      refine lv_aload_n hx hb dX4_sendNext_90 rfl (lv_at hl 1 rfl) ?_
      refine mr_getr (r := b + 1) (TT := TX4) (N := 10) C0 uX4_sendNext_X4 hM hMo.1.1 hMo.1.2 rfl 0 (by decide) rfl kX4_sendNext_f7 rfl dX4_sendNext_91 ?_
      refine lv_iload_n hx hb dX4_sendNext_94 rfl (lv_at hl 0 rfl) ?_
      refine lv_iload_n hx hb dX4_sendNext_95 rfl (lv_at hl 3 rfl) ?_
      refine mr_iastN C0 hM hS hMo.2.1.1 hMo.2.1.2 (by decide) (by omega) dX4_sendNext_96 (fun H locs hM hS => ?_)
      refine lv_aload_n hx hb dX4_sendNext_97 rfl (lv_at hl 1 rfl) ?_
      refine mr_getr (r := b + 1) (TT := TX4) (N := 10) C0 uX4_sendNext_X4 hM hMo.1.1 hMo.1.2 rfl 0 (by decide) rfl kX4_sendNext_f7 rfl dX4_sendNext_98 ?_
      refine lv_iload_n hx hb dX4_sendNext_101 rfl (lv_at hl 0 rfl) ?_
      refine lv_iconst (v := nI 1) hx hb dX4_sendNext_102 (by decide) ?_
      refine mr_iaddN (z := 268 + 4 * (lg - 1) + 1) C0 rfl dX4_sendNext_103 ?_
      refine lv_iload_n hx hb dX4_sendNext_104 rfl (lv_at hl 2 rfl) ?_
      refine mr_iastN C0 hM hS hMo.2.1.1 hMo.2.1.2 (by decide) (by omega) dX4_sendNext_105 (fun H locs hM hS => ?_)
      refine lv_aload_n hx hb dX4_sendNext_106 rfl (lv_at hl 1 rfl) ?_
      refine mr_getr (r := b + 1) (TT := TX4) (N := 10) C0 uX4_sendNext_X4 hM hMo.1.1 hMo.1.2 rfl 0 (by decide) rfl kX4_sendNext_f7 rfl dX4_sendNext_107 ?_
      refine lv_iload_n hx hb dX4_sendNext_110 rfl (lv_at hl 0 rfl) ?_
      refine lv_iconst (v := nI 2) hx hb dX4_sendNext_111 (by decide) ?_
      refine mr_iaddN (z := 268 + 4 * (lg - 1) + 2) C0 rfl dX4_sendNext_112 ?_
      refine lv_aload_n hx hb dX4_sendNext_113 rfl (lv_at hl 1 rfl) ?_
      refine lv_iload_n hx hb dX4_sendNext_114 rfl (lv_at hl 2 rfl) ?_
      refine lv_iconst (v := nI 0) hx hb dX4_sendNext_115 (by decide) ?_
      refine lv_iconst (v := nI 1) hx hb dX4_sendNext_116 (by decide) ?_
      refine mr_callV (As := [.int (nI s0), .int (nI 0), .int (nI 1)]) C0 (ctX4_frameAt_t (I := (hm_put (hm_put (hm_put (lp 156 (fun i28 x28 => hm_put x28 (b + 1) (268 + i28) (x28 (b + 1) (268 + i28 + 4))) ((fX4_nextStream I b c e).2)) (b + 1) 267 (nI (lg - 1))) (b + 1) (268 + 4 * (lg - 1)) (((fX4_nextStream I b c e).2) (b + 1) (32 + 18 * s0 + 3 * 0 + 0))) (b + 1) (268 + 4 * (lg - 1) + 1) (nI s0))) (J := J) (b := b) (s0 := s0) (k0 := 0) (w0 := 1) hMo (by omega)) (cwV 3 C0.1.2.2.2.2 gX4_sendNext_X4_frameAt rfl rfl rfl (by decide +kernel) (by rw [hR]; exact ⟨Nat.le_of_ble_eq_true rfl, Nat.le_of_ble_eq_true rfl⟩)) hM hMo.1.1 hMo.1.2 rfl rfl hM hS rfl rfl rfl hl.1 (Nat.le_of_ble_eq_true rfl) dX4_sendNext_117 (by rw [hR]; exact ⟨Nat.zero_le _, Nat.zero_le _⟩) (fun H locs hM hS => ?_)
      refine mr_iastN C0 hM hS hMo.2.1.1 hMo.2.1.2 (by decide) (by omega) dX4_sendNext_120 (fun H locs hM hS => ?_)
      refine lv_aload_n hx hb dX4_sendNext_121 rfl (lv_at hl 1 rfl) ?_
      refine mr_getr (r := b + 1) (TT := TX4) (N := 10) C0 uX4_sendNext_X4 hM hMo.1.1 hMo.1.2 rfl 0 (by decide) rfl kX4_sendNext_f7 rfl dX4_sendNext_122 ?_
      refine lv_iload_n hx hb dX4_sendNext_125 rfl (lv_at hl 0 rfl) ?_
      refine lv_iconst (v := nI 3) hx hb dX4_sendNext_126 (by decide) ?_
      refine mr_iaddN (z := 268 + 4 * (lg - 1) + 3) C0 rfl dX4_sendNext_127 ?_
      refine lv_aload_n hx hb dX4_sendNext_128 rfl (lv_at hl 1 rfl) ?_
      refine lv_iload_n hx hb dX4_sendNext_129 rfl (lv_at hl 2 rfl) ?_
      refine lv_iconst (v := nI 0) hx hb dX4_sendNext_130 (by decide) ?_
      refine lv_iconst (v := nI 2) hx hb dX4_sendNext_131 (by decide) ?_
      refine mr_callV (As := [.int (nI s0), .int (nI 0), .int (nI 2)]) C0 (ctX4_frameAt_t (I := (hm_put (hm_put (hm_put (hm_put (lp 156 (fun i28 x28 => hm_put x28 (b + 1) (268 + i28) (x28 (b + 1) (268 + i28 + 4))) ((fX4_nextStream I b c e).2)) (b + 1) 267 (nI (lg - 1))) (b + 1) (268 + 4 * (lg - 1)) (((fX4_nextStream I b c e).2) (b + 1) (32 + 18 * s0 + 3 * 0 + 0))) (b + 1) (268 + 4 * (lg - 1) + 1) (nI s0)) (b + 1) (268 + 4 * (lg - 1) + 2) ((hm_put (hm_put (hm_put (lp 156 (fun i28 x28 => hm_put x28 (b + 1) (268 + i28) (x28 (b + 1) (268 + i28 + 4))) ((fX4_nextStream I b c e).2)) (b + 1) 267 (nI (lg - 1))) (b + 1) (268 + 4 * (lg - 1)) (((fX4_nextStream I b c e).2) (b + 1) (32 + 18 * s0 + 3 * 0 + 0))) (b + 1) (268 + 4 * (lg - 1) + 1) (nI s0)) (b + 1) (32 + 18 * s0 + 3 * 0 + 1)))) (J := J) (b := b) (s0 := s0) (k0 := 0) (w0 := 2) hMo (by omega)) (cwV 3 C0.1.2.2.2.2 gX4_sendNext_X4_frameAt rfl rfl rfl (by decide +kernel) (by rw [hR]; exact ⟨Nat.le_of_ble_eq_true rfl, Nat.le_of_ble_eq_true rfl⟩)) hM hMo.1.1 hMo.1.2 rfl rfl hM hS rfl rfl rfl hl.1 (Nat.le_of_ble_eq_true rfl) dX4_sendNext_132 (by rw [hR]; exact ⟨Nat.zero_le _, Nat.zero_le _⟩) (fun H locs hM hS => ?_)
      refine mr_iastN C0 hM hS hMo.2.1.1 hMo.2.1.2 (by decide) (by omega) dX4_sendNext_135 (fun H locs hM hS => ?_)
      refine lv_aload_n hx hb dX4_sendNext_136 rfl (lv_at hl 1 rfl) ?_
      refine mr_getr (r := b + 1) (TT := TX4) (N := 10) C0 uX4_sendNext_X4 hM hMo.1.1 hMo.1.2 rfl 0 (by decide) rfl kX4_sendNext_f7 rfl dX4_sendNext_137 ?_
      refine lv_sipush (v := nI 267) hx hb dX4_sendNext_140 (by decide) ?_
      refine lv_dup2_11 hx hb dX4_sendNext_143 rfl rfl ?_
      refine mr_ialdN (v := nI (lg - 1)) C0 hM hMo.2.1.1 hMo.2.1.2 (by decide) (by decide) ((hm_put_get (by omega)).trans ((hm_put_get (by omega)).trans ((hm_put_get (by omega)).trans ((hm_put_get (by omega)).trans (hm_put_at _ _ _ _))))) dX4_sendNext_144 ?_
      refine lv_iconst (v := nI 1) hx hb dX4_sendNext_145 (by decide) ?_
      refine mr_iaddN (z := (lg - 1) + 1) C0 rfl dX4_sendNext_146 ?_
      refine mr_iastN C0 hM hS hMo.2.1.1 hMo.2.1.2 (by decide) (by decide) dX4_sendNext_147 (fun H locs hM hS => ?_)
      refine lv_aload_n hx hb dX4_sendNext_148 rfl (lv_at hl 1 rfl) ?_
      refine mr_getr (r := b + 1) (TT := TX4) (N := 10) C0 uX4_sendNext_X4 hM hMo.1.1 hMo.1.2 rfl 0 (by decide) rfl kX4_sendNext_f7 rfl dX4_sendNext_149 ?_
      refine lv_sipush (v := nI 266) hx hb dX4_sendNext_152 (by decide) ?_
      refine lv_dup2_11 hx hb dX4_sendNext_155 rfl rfl ?_
      refine mr_ialdN (v := (lp 156 (fun i28 x28 => hm_put x28 (b + 1) (268 + i28) (x28 (b + 1) (268 + i28 + 4))) ((fX4_nextStream I b c e).2)) (b + 1) 266) C0 hM hMo.2.1.1 hMo.2.1.2 (by decide) (by decide) ((hm_put_get (by omega)).trans ((hm_put_get (by omega)).trans ((hm_put_get (by omega)).trans ((hm_put_get (by omega)).trans ((hm_put_get (by omega)).trans (hm_put_get (by omega))))))) dX4_sendNext_156 ?_
      refine lv_iconst (v := nI 1) hx hb dX4_sendNext_157 (by decide) ?_
      refine lv_iadd hx hb dX4_sendNext_158 ?_
      refine mr_iastN C0 hM hS hMo.2.1.1 hMo.2.1.2 (by decide) (by decide) dX4_sendNext_159 (fun H locs hM hS => ?_)
      refine lv_aload_n hx hb dX4_sendNext_160 rfl (lv_at hl 1 rfl) ?_
      refine mr_getr (r := b + 1) (TT := TX4) (N := 10) C0 uX4_sendNext_X4 hM hMo.1.1 hMo.1.2 rfl 0 (by decide) rfl kX4_sendNext_f7 rfl dX4_sendNext_161 ?_
      refine lv_bipush (v := nI 16) hx hb dX4_sendNext_164 (by decide) ?_
      refine lv_iload_n hx hb dX4_sendNext_166 rfl (lv_at hl 2 rfl) ?_
      refine mr_iaddN (z := 16 + s0) C0 rfl dX4_sendNext_167 ?_
      refine lv_dup2_11 hx hb dX4_sendNext_168 rfl rfl ?_
      refine mr_ialdN (v := (lp 156 (fun i28 x28 => hm_put x28 (b + 1) (268 + i28) (x28 (b + 1) (268 + i28 + 4))) ((fX4_nextStream I b c e).2)) (b + 1) (16 + s0)) C0 hM hMo.2.1.1 hMo.2.1.2 (by decide) (by omega) ((hm_put_get (by omega)).trans ((hm_put_get (by omega)).trans ((hm_put_get (by omega)).trans ((hm_put_get (by omega)).trans ((hm_put_get (by omega)).trans ((hm_put_get (by omega)).trans (hm_put_get (by omega)))))))) dX4_sendNext_169 ?_
      refine lv_aload_n hx hb dX4_sendNext_170 rfl (lv_at hl 1 rfl) ?_
      refine lv_iload_n hx hb dX4_sendNext_171 rfl (lv_at hl 2 rfl) ?_
      refine lv_iconst (v := nI 0) hx hb dX4_sendNext_172 (by decide) ?_
      refine lv_iconst (v := nI 1) hx hb dX4_sendNext_173 (by decide) ?_
      refine mr_callV (As := [.int (nI s0), .int (nI 0), .int (nI 1)]) C0 (ctX4_frameAt_t (I := (hm_put (hm_put (hm_put (hm_put (hm_put (hm_put (hm_put (lp 156 (fun i28 x28 => hm_put x28 (b + 1) (268 + i28) (x28 (b + 1) (268 + i28 + 4))) ((fX4_nextStream I b c e).2)) (b + 1) 267 (nI (lg - 1))) (b + 1) (268 + 4 * (lg - 1)) (((fX4_nextStream I b c e).2) (b + 1) (32 + 18 * s0 + 3 * 0 + 0))) (b + 1) (268 + 4 * (lg - 1) + 1) (nI s0)) (b + 1) (268 + 4 * (lg - 1) + 2) ((hm_put (hm_put (hm_put (lp 156 (fun i28 x28 => hm_put x28 (b + 1) (268 + i28) (x28 (b + 1) (268 + i28 + 4))) ((fX4_nextStream I b c e).2)) (b + 1) 267 (nI (lg - 1))) (b + 1) (268 + 4 * (lg - 1)) (((fX4_nextStream I b c e).2) (b + 1) (32 + 18 * s0 + 3 * 0 + 0))) (b + 1) (268 + 4 * (lg - 1) + 1) (nI s0)) (b + 1) (32 + 18 * s0 + 3 * 0 + 1))) (b + 1) (268 + 4 * (lg - 1) + 3) ((hm_put (hm_put (hm_put (hm_put (lp 156 (fun i28 x28 => hm_put x28 (b + 1) (268 + i28) (x28 (b + 1) (268 + i28 + 4))) ((fX4_nextStream I b c e).2)) (b + 1) 267 (nI (lg - 1))) (b + 1) (268 + 4 * (lg - 1)) (((fX4_nextStream I b c e).2) (b + 1) (32 + 18 * s0 + 3 * 0 + 0))) (b + 1) (268 + 4 * (lg - 1) + 1) (nI s0)) (b + 1) (268 + 4 * (lg - 1) + 2) ((hm_put (hm_put (hm_put (lp 156 (fun i28 x28 => hm_put x28 (b + 1) (268 + i28) (x28 (b + 1) (268 + i28 + 4))) ((fX4_nextStream I b c e).2)) (b + 1) 267 (nI (lg - 1))) (b + 1) (268 + 4 * (lg - 1)) (((fX4_nextStream I b c e).2) (b + 1) (32 + 18 * s0 + 3 * 0 + 0))) (b + 1) (268 + 4 * (lg - 1) + 1) (nI s0)) (b + 1) (32 + 18 * s0 + 3 * 0 + 1))) (b + 1) (32 + 18 * s0 + 3 * 0 + 2))) (b + 1) 267 (nI ((lg - 1) + 1))) (b + 1) 266 (((lp 156 (fun i28 x28 => hm_put x28 (b + 1) (268 + i28) (x28 (b + 1) (268 + i28 + 4))) ((fX4_nextStream I b c e).2)) (b + 1) 266) + (nI 1)))) (J := J) (b := b) (s0 := s0) (k0 := 0) (w0 := 1) hMo (by omega)) (cwV 3 C0.1.2.2.2.2 gX4_sendNext_X4_frameAt rfl rfl rfl (by decide +kernel) (by rw [hR]; exact ⟨Nat.le_of_ble_eq_true rfl, Nat.le_of_ble_eq_true rfl⟩)) hM hMo.1.1 hMo.1.2 rfl rfl hM hS rfl rfl rfl hl.1 (Nat.le_of_ble_eq_true rfl) dX4_sendNext_174 (by rw [hR]; exact ⟨Nat.zero_le _, Nat.zero_le _⟩) (fun H locs hM hS => ?_)
      refine lv_iadd hx hb dX4_sendNext_177 ?_
      refine mr_iastN C0 hM hS hMo.2.1.1 hMo.2.1.2 (by decide) (by omega) dX4_sendNext_178 (fun H locs hM hS => ?_)
      refine lv_aload_n hx hb dX4_sendNext_179 rfl (lv_at hl 1 rfl) ?_
      refine mr_getr (r := b + 1) (TT := TX4) (N := 10) C0 uX4_sendNext_X4 hM hMo.1.1 hMo.1.2 rfl 0 (by decide) rfl kX4_sendNext_f7 rfl dX4_sendNext_180 ?_
      refine lv_bipush (v := nI 24) hx hb dX4_sendNext_183 (by decide) ?_
      refine lv_iload_n hx hb dX4_sendNext_185 rfl (lv_at hl 2 rfl) ?_
      refine mr_iaddN (z := 24 + s0) C0 rfl dX4_sendNext_186 ?_
      refine lv_dup2_11 hx hb dX4_sendNext_187 rfl rfl ?_
      refine mr_ialdN (v := nI (c s0)) C0 hM hMo.2.1.1 hMo.2.1.2 (by decide) (by omega) ((hm_put_get (by omega)).trans ((hm_put_get (by omega)).trans ((hm_put_get (by omega)).trans ((hm_put_get (by omega)).trans ((hm_put_get (by omega)).trans ((hm_put_get (by omega)).trans ((hm_put_get (by omega)).trans ((hm_put_get (by omega)).trans hv11.1)))))))) dX4_sendNext_188 ?_
      refine lv_iconst (v := nI 1) hx hb dX4_sendNext_189 (by decide) ?_
      refine mr_isubN (z := (c s0 - 1)) C0 (by omega) dX4_sendNext_190 ?_
      refine mr_iastN C0 hM hS hMo.2.1.1 hMo.2.1.2 (by decide) (by omega) dX4_sendNext_191 (fun H locs hM hS => ?_)
      refine lv_iconst (v := nI 0) hx hb dX4_sendNext_192 (by decide) ?_
      refine lv_istore (lv' := [(4, .int (nI 0)), (3, .int (nI (268 + 4 * (lg - 1)))), (0, .ref b), (1, .int (nI s0)), (2, .int (((fX4_nextStream I b c e).2) (b + 1) (32 + 18 * s0 + 3 * 0 + 0)))]) hx hb dX4_sendNext_193 hl (by decide) rfl (fun ls hl => ?_)
      refine lp_loop (σ := hm_I) (fun i195 x195 => ∀ (H : Heap) (locs : List Loc) (ls : Array Slot), hm D T L A Sh x195 J H → va_S A s_.heap H locs → lv_has ls 5 [(0, .ref b), (1, .int (nI s0)), (2, .int (((fX4_nextStream I b c e).2) (b + 1) (32 + 18 * s0 + 3 * 0 + 0))), (4, .int (nI i195))] → W p_ l e_ R s_ m_ args_ below_ meth_ c_ H locs 0 0 Qq (F0 m_ 195 ls [])) (3 * (c s0 - 1)) (fun i195 x195 => hm_put x195 (b + 1) (32 + 18 * s0 + i195) (x195 (b + 1) (32 + 18 * s0 + i195 + 3))) (hm_put (hm_put (hm_put (hm_put (hm_put (hm_put (hm_put (hm_put (hm_put (lp 156 (fun i28 x28 => hm_put x28 (b + 1) (268 + i28) (x28 (b + 1) (268 + i28 + 4))) ((fX4_nextStream I b c e).2)) (b + 1) 267 (nI (lg - 1))) (b + 1) (268 + 4 * (lg - 1)) (((fX4_nextStream I b c e).2) (b + 1) (32 + 18 * s0 + 3 * 0 + 0))) (b + 1) (268 + 4 * (lg - 1) + 1) (nI s0)) (b + 1) (268 + 4 * (lg - 1) + 2) ((hm_put (hm_put (hm_put (lp 156 (fun i28 x28 => hm_put x28 (b + 1) (268 + i28) (x28 (b + 1) (268 + i28 + 4))) ((fX4_nextStream I b c e).2)) (b + 1) 267 (nI (lg - 1))) (b + 1) (268 + 4 * (lg - 1)) (((fX4_nextStream I b c e).2) (b + 1) (32 + 18 * s0 + 3 * 0 + 0))) (b + 1) (268 + 4 * (lg - 1) + 1) (nI s0)) (b + 1) (32 + 18 * s0 + 3 * 0 + 1))) (b + 1) (268 + 4 * (lg - 1) + 3) ((hm_put (hm_put (hm_put (hm_put (lp 156 (fun i28 x28 => hm_put x28 (b + 1) (268 + i28) (x28 (b + 1) (268 + i28 + 4))) ((fX4_nextStream I b c e).2)) (b + 1) 267 (nI (lg - 1))) (b + 1) (268 + 4 * (lg - 1)) (((fX4_nextStream I b c e).2) (b + 1) (32 + 18 * s0 + 3 * 0 + 0))) (b + 1) (268 + 4 * (lg - 1) + 1) (nI s0)) (b + 1) (268 + 4 * (lg - 1) + 2) ((hm_put (hm_put (hm_put (lp 156 (fun i28 x28 => hm_put x28 (b + 1) (268 + i28) (x28 (b + 1) (268 + i28 + 4))) ((fX4_nextStream I b c e).2)) (b + 1) 267 (nI (lg - 1))) (b + 1) (268 + 4 * (lg - 1)) (((fX4_nextStream I b c e).2) (b + 1) (32 + 18 * s0 + 3 * 0 + 0))) (b + 1) (268 + 4 * (lg - 1) + 1) (nI s0)) (b + 1) (32 + 18 * s0 + 3 * 0 + 1))) (b + 1) (32 + 18 * s0 + 3 * 0 + 2))) (b + 1) 267 (nI ((lg - 1) + 1))) (b + 1) 266 (((lp 156 (fun i28 x28 => hm_put x28 (b + 1) (268 + i28) (x28 (b + 1) (268 + i28 + 4))) ((fX4_nextStream I b c e).2)) (b + 1) 266) + (nI 1))) (b + 1) (16 + s0) (((lp 156 (fun i28 x28 => hm_put x28 (b + 1) (268 + i28) (x28 (b + 1) (268 + i28 + 4))) ((fX4_nextStream I b c e).2)) (b + 1) (16 + s0)) + ((hm_put (hm_put (hm_put (hm_put (hm_put (hm_put (hm_put (lp 156 (fun i28 x28 => hm_put x28 (b + 1) (268 + i28) (x28 (b + 1) (268 + i28 + 4))) ((fX4_nextStream I b c e).2)) (b + 1) 267 (nI (lg - 1))) (b + 1) (268 + 4 * (lg - 1)) (((fX4_nextStream I b c e).2) (b + 1) (32 + 18 * s0 + 3 * 0 + 0))) (b + 1) (268 + 4 * (lg - 1) + 1) (nI s0)) (b + 1) (268 + 4 * (lg - 1) + 2) ((hm_put (hm_put (hm_put (lp 156 (fun i28 x28 => hm_put x28 (b + 1) (268 + i28) (x28 (b + 1) (268 + i28 + 4))) ((fX4_nextStream I b c e).2)) (b + 1) 267 (nI (lg - 1))) (b + 1) (268 + 4 * (lg - 1)) (((fX4_nextStream I b c e).2) (b + 1) (32 + 18 * s0 + 3 * 0 + 0))) (b + 1) (268 + 4 * (lg - 1) + 1) (nI s0)) (b + 1) (32 + 18 * s0 + 3 * 0 + 1))) (b + 1) (268 + 4 * (lg - 1) + 3) ((hm_put (hm_put (hm_put (hm_put (lp 156 (fun i28 x28 => hm_put x28 (b + 1) (268 + i28) (x28 (b + 1) (268 + i28 + 4))) ((fX4_nextStream I b c e).2)) (b + 1) 267 (nI (lg - 1))) (b + 1) (268 + 4 * (lg - 1)) (((fX4_nextStream I b c e).2) (b + 1) (32 + 18 * s0 + 3 * 0 + 0))) (b + 1) (268 + 4 * (lg - 1) + 1) (nI s0)) (b + 1) (268 + 4 * (lg - 1) + 2) ((hm_put (hm_put (hm_put (lp 156 (fun i28 x28 => hm_put x28 (b + 1) (268 + i28) (x28 (b + 1) (268 + i28 + 4))) ((fX4_nextStream I b c e).2)) (b + 1) 267 (nI (lg - 1))) (b + 1) (268 + 4 * (lg - 1)) (((fX4_nextStream I b c e).2) (b + 1) (32 + 18 * s0 + 3 * 0 + 0))) (b + 1) (268 + 4 * (lg - 1) + 1) (nI s0)) (b + 1) (32 + 18 * s0 + 3 * 0 + 1))) (b + 1) (32 + 18 * s0 + 3 * 0 + 2))) (b + 1) 267 (nI ((lg - 1) + 1))) (b + 1) 266 (((lp 156 (fun i28 x28 => hm_put x28 (b + 1) (268 + i28) (x28 (b + 1) (268 + i28 + 4))) ((fX4_nextStream I b c e).2)) (b + 1) 266) + (nI 1))) (b + 1) (32 + 18 * s0 + 3 * 0 + 1)))) (b + 1) (24 + s0) (nI (c s0 - 1))) (fun (i195 : Nat) (x195 : hm_I) => x195 (b + 1) (24 + s0) = nI (c s0 - 1)) (hm_put_at _ _ _ _) (fun i x hi hv => (hm_put_get (by omega)).trans hv) (fun i195 x195 hi16 hv17 k18 H locs ls hM hS hl => ?_) (fun hv17 H locs ls hM hS hl => ?_) _ _ _ hM hS (lv_sub hl [2, 3, 4, 0] rfl)
      · have stp19 : ∀ yy_ : hm_I, yy_ = (hm_put x195 (b + 1) (32 + 18 * s0 + i195) (x195 (b + 1) (32 + 18 * s0 + i195 + 3))) → ∀ (H : Heap) (locs : List Loc) (ls : Array Slot), hm D T L A Sh yy_ J H → va_S A s_.heap H locs → lv_has ls 5 [(0, .ref b), (1, .int (nI s0)), (2, .int (((fX4_nextStream I b c e).2) (b + 1) (32 + 18 * s0 + 3 * 0 + 0))), (4, .int (nI (i195 + 1)))] → W p_ l e_ R s_ m_ args_ below_ meth_ c_ H locs 0 0 Qq (F0 m_ 195 ls []) := fun yy_ ey => by rw [ey]; exact k18
        refine lv_iload hx hb dX4_sendNext_195 (lv_at hl 3 rfl) ?_
        refine lv_iconst (v := nI 3) hx hb dX4_sendNext_197 (by decide) ?_
        refine lv_aload_n hx hb dX4_sendNext_198 rfl (lv_at hl 0 rfl) ?_
        refine mr_getr (r := b + 1) (TT := TX4) (N := 10) C0 uX4_sendNext_X4 hM hMo.1.1 hMo.1.2 rfl 0 (by decide) rfl kX4_sendNext_f7 rfl dX4_sendNext_199 ?_
        refine lv_bipush (v := nI 24) hx hb dX4_sendNext_202 (by decide) ?_
        refine lv_iload_n hx hb dX4_sendNext_204 rfl (lv_at hl 1 rfl) ?_
        refine mr_iaddN (z := 24 + s0) C0 rfl dX4_sendNext_205 ?_
        refine mr_ialdN (v := nI (c s0 - 1)) C0 hM hMo.2.1.1 hMo.2.1.2 (by decide) (by omega) hv17 dX4_sendNext_206 ?_
        refine mr_imulN (z := 3 * (c s0 - 1)) C0 rfl dX4_sendNext_207 ?_
        refine mr_geN (x := i195) (y := 3 * (c s0 - 1)) (tgt := 249) C0 dX4_sendNext_208 (by decide) (by omega) (by omega) (fun c20 => absurd c20 (by omega)) (fun c20 => ?_)
        refine lv_aload_n hx hb dX4_sendNext_211 rfl (lv_at hl 0 rfl) ?_
        refine mr_getr (r := b + 1) (TT := TX4) (N := 10) C0 uX4_sendNext_X4 hM hMo.1.1 hMo.1.2 rfl 0 (by decide) rfl kX4_sendNext_f7 rfl dX4_sendNext_212 ?_
        refine lv_bipush (v := nI 32) hx hb dX4_sendNext_215 (by decide) ?_
        refine lv_bipush (v := nI 18) hx hb dX4_sendNext_217 (by decide) ?_
        refine lv_iload_n hx hb dX4_sendNext_219 rfl (lv_at hl 1 rfl) ?_
        refine mr_imulN (z := 18 * s0) C0 rfl dX4_sendNext_220 ?_
        refine mr_iaddN (z := 32 + 18 * s0) C0 rfl dX4_sendNext_221 ?_
        refine lv_iload hx hb dX4_sendNext_222 (lv_at hl 3 rfl) ?_
        refine mr_iaddN (z := 32 + 18 * s0 + i195) C0 rfl dX4_sendNext_224 ?_
        refine lv_aload_n hx hb dX4_sendNext_225 rfl (lv_at hl 0 rfl) ?_
        refine mr_getr (r := b + 1) (TT := TX4) (N := 10) C0 uX4_sendNext_X4 hM hMo.1.1 hMo.1.2 rfl 0 (by decide) rfl kX4_sendNext_f7 rfl dX4_sendNext_226 ?_
        refine lv_bipush (v := nI 32) hx hb dX4_sendNext_229 (by decide) ?_
        refine lv_bipush (v := nI 18) hx hb dX4_sendNext_231 (by decide) ?_
        refine lv_iload_n hx hb dX4_sendNext_233 rfl (lv_at hl 1 rfl) ?_
        refine mr_imulN (z := 18 * s0) C0 rfl dX4_sendNext_234 ?_
        refine mr_iaddN (z := 32 + 18 * s0) C0 rfl dX4_sendNext_235 ?_
        refine lv_iload hx hb dX4_sendNext_236 (lv_at hl 3 rfl) ?_
        refine mr_iaddN (z := 32 + 18 * s0 + i195) C0 rfl dX4_sendNext_238 ?_
        refine lv_iconst (v := nI 3) hx hb dX4_sendNext_239 (by decide) ?_
        refine mr_iaddN (z := 32 + 18 * s0 + i195 + 3) C0 rfl dX4_sendNext_240 ?_
        refine mr_ialdN (v := x195 (b + 1) (32 + 18 * s0 + i195 + 3)) C0 hM hMo.2.1.1 hMo.2.1.2 (by decide) (by omega) rfl dX4_sendNext_241 ?_
        refine mr_iastN C0 hM hS hMo.2.1.1 hMo.2.1.2 (by decide) (by omega) dX4_sendNext_242 (fun H locs hM hS => ?_)
        refine lv_iinc (v := nI (i195 + 1)) (lv' := [(4, .int (nI (i195 + 1))), (0, .ref b), (1, .int (nI s0)), (2, .int (((fX4_nextStream I b c e).2) (b + 1) (32 + 18 * s0 + 3 * 0 + 0)))]) hx hb dX4_sendNext_243 hl (k := 3) rfl (nI_1 _) (by decide) rfl (fun ls hl => ?_)
        refine lv_goto (tgt := 195) hx hb dX4_sendNext_246 (by decide) ?_
        exact stp19 (hm_put x195 (b + 1) (32 + 18 * s0 + i195) (x195 (b + 1) (32 + 18 * s0 + i195 + 3))) rfl H locs ls hM hS (lv_sub hl [1, 2, 3, 0] rfl)
      · skip
        refine lv_iload hx hb dX4_sendNext_195 (lv_at hl 3 rfl) ?_
        refine lv_iconst (v := nI 3) hx hb dX4_sendNext_197 (by decide) ?_
        refine lv_aload_n hx hb dX4_sendNext_198 rfl (lv_at hl 0 rfl) ?_
        refine mr_getr (r := b + 1) (TT := TX4) (N := 10) C0 uX4_sendNext_X4 hM hMo.1.1 hMo.1.2 rfl 0 (by decide) rfl kX4_sendNext_f7 rfl dX4_sendNext_199 ?_
        refine lv_bipush (v := nI 24) hx hb dX4_sendNext_202 (by decide) ?_
        refine lv_iload_n hx hb dX4_sendNext_204 rfl (lv_at hl 1 rfl) ?_
        refine mr_iaddN (z := 24 + s0) C0 rfl dX4_sendNext_205 ?_
        refine mr_ialdN (v := nI (c s0 - 1)) C0 hM hMo.2.1.1 hMo.2.1.2 (by decide) (by omega) hv17 dX4_sendNext_206 ?_
        refine mr_imulN (z := 3 * (c s0 - 1)) C0 rfl dX4_sendNext_207 ?_
        refine mr_geN (x := (3 * (c s0 - 1))) (y := 3 * (c s0 - 1)) (tgt := 249) C0 dX4_sendNext_208 (by decide) (by omega) (by omega) (fun c21 => ?_) (fun c21 => absurd c21 (by omega))
        refine lv_iload_n hx hb dX4_sendNext_249 rfl (lv_at hl 2 rfl) ?_
        have eF : (((fX4_nextStream I b c e).2) (b + 1) (32 + 18 * s0 + 3 * 0 + 0), (lp (3 * (c s0 - 1)) (fun i195 x195 => hm_put x195 (b + 1) (32 + 18 * s0 + i195) (x195 (b + 1) (32 + 18 * s0 + i195 + 3))) (hm_put (hm_put (hm_put (hm_put (hm_put (hm_put (hm_put (hm_put (hm_put (lp 156 (fun i28 x28 => hm_put x28 (b + 1) (268 + i28) (x28 (b + 1) (268 + i28 + 4))) ((fX4_nextStream I b c e).2)) (b + 1) 267 (nI (lg - 1))) (b + 1) (268 + 4 * (lg - 1)) (((fX4_nextStream I b c e).2) (b + 1) (32 + 18 * s0 + 3 * 0 + 0))) (b + 1) (268 + 4 * (lg - 1) + 1) (nI s0)) (b + 1) (268 + 4 * (lg - 1) + 2) ((hm_put (hm_put (hm_put (lp 156 (fun i28 x28 => hm_put x28 (b + 1) (268 + i28) (x28 (b + 1) (268 + i28 + 4))) ((fX4_nextStream I b c e).2)) (b + 1) 267 (nI (lg - 1))) (b + 1) (268 + 4 * (lg - 1)) (((fX4_nextStream I b c e).2) (b + 1) (32 + 18 * s0 + 3 * 0 + 0))) (b + 1) (268 + 4 * (lg - 1) + 1) (nI s0)) (b + 1) (32 + 18 * s0 + 3 * 0 + 1))) (b + 1) (268 + 4 * (lg - 1) + 3) ((hm_put (hm_put (hm_put (hm_put (lp 156 (fun i28 x28 => hm_put x28 (b + 1) (268 + i28) (x28 (b + 1) (268 + i28 + 4))) ((fX4_nextStream I b c e).2)) (b + 1) 267 (nI (lg - 1))) (b + 1) (268 + 4 * (lg - 1)) (((fX4_nextStream I b c e).2) (b + 1) (32 + 18 * s0 + 3 * 0 + 0))) (b + 1) (268 + 4 * (lg - 1) + 1) (nI s0)) (b + 1) (268 + 4 * (lg - 1) + 2) ((hm_put (hm_put (hm_put (lp 156 (fun i28 x28 => hm_put x28 (b + 1) (268 + i28) (x28 (b + 1) (268 + i28 + 4))) ((fX4_nextStream I b c e).2)) (b + 1) 267 (nI (lg - 1))) (b + 1) (268 + 4 * (lg - 1)) (((fX4_nextStream I b c e).2) (b + 1) (32 + 18 * s0 + 3 * 0 + 0))) (b + 1) (268 + 4 * (lg - 1) + 1) (nI s0)) (b + 1) (32 + 18 * s0 + 3 * 0 + 1))) (b + 1) (32 + 18 * s0 + 3 * 0 + 2))) (b + 1) 267 (nI ((lg - 1) + 1))) (b + 1) 266 (((lp 156 (fun i28 x28 => hm_put x28 (b + 1) (268 + i28) (x28 (b + 1) (268 + i28 + 4))) ((fX4_nextStream I b c e).2)) (b + 1) 266) + (nI 1))) (b + 1) (16 + s0) (((lp 156 (fun i28 x28 => hm_put x28 (b + 1) (268 + i28) (x28 (b + 1) (268 + i28 + 4))) ((fX4_nextStream I b c e).2)) (b + 1) (16 + s0)) + ((hm_put (hm_put (hm_put (hm_put (hm_put (hm_put (hm_put (lp 156 (fun i28 x28 => hm_put x28 (b + 1) (268 + i28) (x28 (b + 1) (268 + i28 + 4))) ((fX4_nextStream I b c e).2)) (b + 1) 267 (nI (lg - 1))) (b + 1) (268 + 4 * (lg - 1)) (((fX4_nextStream I b c e).2) (b + 1) (32 + 18 * s0 + 3 * 0 + 0))) (b + 1) (268 + 4 * (lg - 1) + 1) (nI s0)) (b + 1) (268 + 4 * (lg - 1) + 2) ((hm_put (hm_put (hm_put (lp 156 (fun i28 x28 => hm_put x28 (b + 1) (268 + i28) (x28 (b + 1) (268 + i28 + 4))) ((fX4_nextStream I b c e).2)) (b + 1) 267 (nI (lg - 1))) (b + 1) (268 + 4 * (lg - 1)) (((fX4_nextStream I b c e).2) (b + 1) (32 + 18 * s0 + 3 * 0 + 0))) (b + 1) (268 + 4 * (lg - 1) + 1) (nI s0)) (b + 1) (32 + 18 * s0 + 3 * 0 + 1))) (b + 1) (268 + 4 * (lg - 1) + 3) ((hm_put (hm_put (hm_put (hm_put (lp 156 (fun i28 x28 => hm_put x28 (b + 1) (268 + i28) (x28 (b + 1) (268 + i28 + 4))) ((fX4_nextStream I b c e).2)) (b + 1) 267 (nI (lg - 1))) (b + 1) (268 + 4 * (lg - 1)) (((fX4_nextStream I b c e).2) (b + 1) (32 + 18 * s0 + 3 * 0 + 0))) (b + 1) (268 + 4 * (lg - 1) + 1) (nI s0)) (b + 1) (268 + 4 * (lg - 1) + 2) ((hm_put (hm_put (hm_put (lp 156 (fun i28 x28 => hm_put x28 (b + 1) (268 + i28) (x28 (b + 1) (268 + i28 + 4))) ((fX4_nextStream I b c e).2)) (b + 1) 267 (nI (lg - 1))) (b + 1) (268 + 4 * (lg - 1)) (((fX4_nextStream I b c e).2) (b + 1) (32 + 18 * s0 + 3 * 0 + 0))) (b + 1) (268 + 4 * (lg - 1) + 1) (nI s0)) (b + 1) (32 + 18 * s0 + 3 * 0 + 1))) (b + 1) (32 + 18 * s0 + 3 * 0 + 2))) (b + 1) 267 (nI ((lg - 1) + 1))) (b + 1) 266 (((lp 156 (fun i28 x28 => hm_put x28 (b + 1) (268 + i28) (x28 (b + 1) (268 + i28 + 4))) ((fX4_nextStream I b c e).2)) (b + 1) 266) + (nI 1))) (b + 1) (32 + 18 * s0 + 3 * 0 + 1)))) (b + 1) (24 + s0) (nI (c s0 - 1))))) = fX4_sendNext_t I b c e lg s0 := by unfold fX4_sendNext_t; rw [if_pos c3]
        exact mr_iret (v := ((fX4_nextStream I b c e).2) (b + 1) (32 + 18 * s0 + 3 * 0 + 0)) C0 hr hlk hQ hS (by rw [← eF]) (by rw [← eF]; exact hM) (Nat.le_refl _) (Nat.le_refl _) dX4_sendNext_250
/-- the reference's numbers, read off its row -/
def cM (w : Nat → Int32) (s : Nat) : Nat := (w (24 + s)).toNatClampNeg
def eM (w : Nat → Int32) (s k : Nat) : Nat := (w (32 + 18 * s + 3 * k + 2)).toNatClampNeg
def epM (w : Nat → Int32) : Nat := (w 184).toNatClampNeg
def lgM (w : Nat → Int32) : Nat := (w 267).toNatClampNeg
def WfC (w : Nat → Int32) : Prop := WfM w (cM w) (eM w) (epM w) (lgM w)
/-- the reference's next stream, and its sending, in its own numbers -/
def nsM (I : hm_I) (b : Nat) : Int32 × hm_I := fX4_nextStream I b (cM (I (b + 1))) (eM (I (b + 1)))
def snM (I : hm_I) (b : Nat) : Int32 × hm_I := fX4_sendNext_t I b (cM (I (b + 1))) (eM (I (b + 1))) (lgM (I (b + 1))) (nsM I b).1.toNatClampNeg
/-- there is a next stream -/
def okM (I : hm_I) (b : Nat) : Prop := (nsM I b).1.toNatClampNeg < 8 ∧ 0 < cM (I (b + 1)) (nsM I b).1.toNatClampNeg ∧ (nsM I b).1 = nI (nsM I b).1.toNatClampNeg
theorem lp_rel {σ τ : Type} (R : σ → τ → Prop) {n : Nat} {f : Nat → σ → σ} {g : Nat → τ → τ} {x : σ} {y : τ} (h0 : R x y) (hs : ∀ i a c, i < n → R a c → R (f i a) (g i c)) : R (lp n f x) (lp n g y) := by
  induction n with
  | zero => exact h0
  | succ n ih => exact hs n _ _ (by omega) (ih (fun i a c hi => hs i a c (by omega)))
theorem lpr_rel {σ τ ρ π : Type} (R : σ → τ → Prop) (Q : ρ → π → Prop) {g : Nat → σ → ρ ⊕ σ} {g' : Nat → τ → π ⊕ τ} {d : σ → ρ} {d' : τ → π} (hd : ∀ a c, R a c → Q (d a) (d' c))
    (hs : ∀ i a c, R a c → (∃ v w, g i a = .inl v ∧ g' i c = .inl w ∧ Q v w) ∨ (∃ a' c', g i a = .inr a' ∧ g' i c = .inr c' ∧ R a' c')) : ∀ n i x y, R x y → Q (lpr g d n i x) (lpr g' d' n i y) := by
  intro n
  induction n with
  | zero => exact fun i x y h => hd x y h
  | succ n ih =>
    intro i x y h
    rcases hs i x y h with ⟨v, w, h1, h2, h3⟩ | ⟨a', c', h1, h2, h3⟩
    · rw [lpr_l h1, lpr_l h2]; exact h3
    · rw [lpr_r h1, lpr_r h2]; exact ih _ _ _ h3
/-- two memories with the same row of the reference, and the same row 'after' on its 8 places -/
def sameA (b : Nat) (x y : hm_I) : Prop := x (b + 1) = y (b + 1) ∧ ∀ j, j < 8 → x (b + 4) j = y (b + 4) j
theorem layAfter_same {I I' : hm_I} {b o : Nat} (h : I (b + 1) = I' (b + 1)) : sameA b (fX4_layAfter I b o) (fX4_layAfter I' b o) := by
  unfold fX4_layAfter
  refine lp_rel (sameA b) ?_ (fun i x y hi hr => ?_)
  · have h1 : ∀ (K : hm_I) n j, n ≤ 8 → (lp n (fun i2 (x2 : hm_I) => hm_put x2 (b + 4) i2 (x2 (b + 1) (o + i2))) K) (b + 1) = K (b + 1) ∧ (j < n → (lp n (fun i2 (x2 : hm_I) => hm_put x2 (b + 4) i2 (x2 (b + 1) (o + i2))) K) (b + 4) j = K (b + 1) (o + j)) := by
      intro K n j
      induction n with
      | zero => exact fun _ => ⟨rfl, fun h => absurd h (by omega)⟩
      | succ n ih =>
        intro hn
        obtain ⟨h1, h2⟩ := ih (by omega)
        rw [lp_s]
        refine ⟨by rw [hm_put_ne _ _ _ _ (by omega)]; exact h1, fun hj => ?_⟩
        by_cases hjn : j = n
        · subst hjn
          rw [hm_put_at, h1]
        · rw [hm_put_get (Or.inr hjn)]
          exact h2 (by omega)
    exact ⟨by rw [(h1 I 8 0 (by omega)).1, (h1 I' 8 0 (by omega)).1, h], fun j hj => by rw [(h1 I 8 j (by omega)).2 hj, (h1 I' 8 j (by omega)).2 hj, h]⟩
  · refine lp_rel (sameA b) hr (fun j x y hj hr => ?_)
    rw [hr.2 j hj]
    split
    · refine ⟨by rw [hm_put_ne _ _ _ _ (by omega), hm_put_ne _ _ _ _ (by omega)]; exact hr.1, fun k hk => ?_⟩
      by_cases hkj : k = j
      · subst hkj
        rw [hm_put_at, hm_put_at, hr.2 i hi]
      · rw [hm_put_get (Or.inr hkj), hm_put_get (Or.inr hkj)]
        exact hr.2 k hk
    · refine ⟨by rw [hm_put_ne _ _ _ _ (by omega), hm_put_ne _ _ _ _ (by omega)]; exact hr.1, fun k hk => ?_⟩
      by_cases hkj : k = j
      · subst hkj
        rw [hm_put_at, hm_put_at]
      · rw [hm_put_get (Or.inr hkj), hm_put_get (Or.inr hkj)]
        exact hr.2 k hk
theorem blocking_same {I I' : hm_I} {b : Nat} (h : I (b + 1) = I' (b + 1)) (c : Nat → Nat) (e : Nat → Nat → Nat) {s0 : Nat} (hs0 : s0 < 8) : (fX4_blocking_t I b c e s0).1 = (fX4_blocking_t I' b c e s0).1 := by
  unfold fX4_blocking_t
  have hA := layAfter_same (o := 185 + 8 * e s0 0) h
  dsimp only
  refine lp_cong rfl (fun i z hi => ?_)
  rw [hA.1, hA.2 i hi]
theorem isCandidate_same {I I' : hm_I} {b : Nat} (h : I (b + 1) = I' (b + 1)) (c : Nat → Nat) (e : Nat → Nat → Nat) {s0 : Nat} (hs0 : s0 < 8) : (fX4_isCandidate_t I b c e s0).1 = (fX4_isCandidate_t I' b c e s0).1 := by
  unfold fX4_isCandidate_t
  rw [blocking_same h c e hs0]
  split
  · rfl
  · split <;> rfl
theorem nextStream_same {I I' : hm_I} {b : Nat} (h : I (b + 1) = I' (b + 1)) (c : Nat → Nat) (e : Nat → Nat → Nat) : (fX4_nextStream I b c e).1 = (fX4_nextStream I' b c e).1 := by
  unfold fX4_nextStream
  refine (lp_rel (fun (x y : hm_I × Int32) => x.1 (b + 1) = y.1 (b + 1) ∧ x.2 = y.2) (x := (I, -9)) (y := (I', -9)) ⟨h, rfl⟩ (fun i x y hi hr => ?_)).2
  have n1 : (fX4_isCandidate_t x.1 b c e i).2 (b + 1) = x.1 (b + 1) := fX4_isCandidate_ne (by omega)
  have n2 : (fX4_isCandidate_t y.1 b c e i).2 (b + 1) = y.1 (b + 1) := fX4_isCandidate_ne (by omega)
  have n3 : (fX4_isCandidate_t x.1 b c e i).2 (b + 1) = (fX4_isCandidate_t y.1 b c e i).2 (b + 1) := n1.trans (hr.1.trans n2.symm)
  rw [isCandidate_same hr.1 c e hi, hr.2, n3]
  split
  · split
    · exact ⟨n3, rfl⟩
    · split
      · exact ⟨n3, rfl⟩
      · exact ⟨n3, rfl⟩
  · exact ⟨n3, rfl⟩
theorem nextStream_range (I : hm_I) (b : Nat) (c : Nat → Nat) (e : Nat → Nat → Nat) : (fX4_nextStream I b c e).1 = -9 ∨ ∃ k : Nat, k < 8 ∧ (fX4_nextStream I b c e).1 = nI k := by
  unfold fX4_nextStream
  refine lp_inv (fun _ (x : hm_I × Int32) => x.2 = -9 ∨ ∃ k : Nat, k < 8 ∧ x.2 = nI k) (Or.inl rfl) (fun i x hi hx => ?_)
  (try dsimp only)
  repeat' split
  all_goals first | exact Or.inr ⟨i, hi, rfl⟩ | exact hx
theorem nI_ne_m9 {k : Nat} (h : k < 2 ^ 31) : ¬ nI k = -9 := fun q => by
  have h1 := nI_toInt h
  rw [q] at h1
  have h2 : (-9 : Int32).toInt = -9 := by decide
  omega
theorem m1_le {k : Nat} (h : k < 2 ^ 31) : (-1 : Int32) ≤ nI k := by
  rw [Int32.le_iff_toInt_le, nI_toInt h]
  have h2 : (-1 : Int32).toInt = -1 := by decide
  omega
theorem le_lt_no {x y : Int32} (h : x ≤ y) (h2 : y < x) : False := by
  rw [Int32.le_iff_toInt_le] at h
  rw [Int32.lt_iff_toInt_lt] at h2
  omega
def heldM (I : hm_I) (b : Nat) : hm_I := lp 428 (fun i2 x2 => hm_put x2 (b + 5) i2 (x2 (b + 1) i2)) I
/-- what a count of the frames ahead of 'num' stands on: m sendings, each with a next stream, none of 'num'; then 'num' -/
def BefOk (I : hm_I) (b m : Nat) (num : Int32) (Inv : Nat → hm_I → Prop) : Prop :=
  m < 1000 ∧ WfC (heldM I b (b + 1)) ∧ Inv 0 (heldM I b) ∧ (∀ i x, i < m → WfC (x (b + 1)) → Inv i x → WfC ((snM x b).2 (b + 1))) ∧ (∀ i x, i < m → WfC (x (b + 1)) → Inv i x → Inv (i + 1) (snM x b).2) ∧
  (∀ i x, i ≤ m → WfC (x (b + 1)) → Inv i x → okM x b) ∧ (∀ i x, i < m → WfC (x (b + 1)) → Inv i x → ¬ (snM x b).1 = num) ∧ (∀ x, WfC (x (b + 1)) → Inv m x → (snM x b).1 = num)
def fX4_before_t (I : hm_I) (b m : Nat) : Int32 × hm_I :=
  (nI m, (lp 428 (fun i45 x45 => hm_put x45 (b + 1) i45 (x45 (b + 5) i45)) ((fX4_sendNext_t (lp m (fun i29 x29 => (fX4_sendNext_t x29 b (cM (x29 (b + 1))) (eM (x29 (b + 1))) (lgM (x29 (b + 1))) ((nsM x29 b).1.toNatClampNeg)).2) (lp 428 (fun i2 x2 => hm_put x2 (b + 5) i2 (x2 (b + 1) i2)) I)) b (cM ((lp m (fun i29 x29 => (fX4_sendNext_t x29 b (cM (x29 (b + 1))) (eM (x29 (b + 1))) (lgM (x29 (b + 1))) ((nsM x29 b).1.toNatClampNeg)).2) (lp 428 (fun i2 x2 => hm_put x2 (b + 5) i2 (x2 (b + 1) i2)) I)) (b + 1))) (eM ((lp m (fun i29 x29 => (fX4_sendNext_t x29 b (cM (x29 (b + 1))) (eM (x29 (b + 1))) (lgM (x29 (b + 1))) ((nsM x29 b).1.toNatClampNeg)).2) (lp 428 (fun i2 x2 => hm_put x2 (b + 5) i2 (x2 (b + 1) i2)) I)) (b + 1))) (lgM ((lp m (fun i29 x29 => (fX4_sendNext_t x29 b (cM (x29 (b + 1))) (eM (x29 (b + 1))) (lgM (x29 (b + 1))) ((nsM x29 b).1.toNatClampNeg)).2) (lp 428 (fun i2 x2 => hm_put x2 (b + 5) i2 (x2 (b + 1) i2)) I)) (b + 1))) ((nsM (lp m (fun i29 x29 => (fX4_sendNext_t x29 b (cM (x29 (b + 1))) (eM (x29 (b + 1))) (lgM (x29 (b + 1))) ((nsM x29 b).1.toNatClampNeg)).2) (lp 428 (fun i2 x2 => hm_put x2 (b + 5) i2 (x2 (b + 1) i2)) I)) b).1.toNatClampNeg)).2)))
set_option maxHeartbeats 4000000 in
set_option maxRecDepth 100000 in
theorem ctX4_before_t {l : Launch} {D : va_G} {T : Nat → ClassId} {L : List Nat} {A : Nat → Prop} {Sh : hm_S} {I : hm_I} {J : hm_J} {b : Nat} (hMo : IsM L Sh b) {num : Int32} {m : Nat} {Inv : Nat → hm_I → Prop} (hB : BefOk I b m num Inv) :
    Ct l yX4_before wsX4_before { frames := 6, cells := 0, slots := 0, locals := 137 } 0 0 D T A [.ref b, .int num] (hm D T L A Sh I J) (some (.int ((fX4_before_t I b m).1))) (hm D T L A Sh ((fX4_before_t I b m).2) J) := by
  refine Ct.ofW (cc := cX4_before) (maxL := 4) (ret := (some .int)) (by decide) rfl (Nat.le_of_ble_eq_true rfl) ?_
  intro p_ e_ s_ m_ args_ below_ meth_ c_ ls R Qq hR hQ C0 hr hlk hname hM hl
  have hx := C0.1.1
  have hb := C0.1.2.1
  have hS : va_S A s_.heap s_.heap [] := va_S.rf
  have hl : lv_has ls 4 [(0, .ref b), (1, .int num)] := hl
  have hm48 := hB.1
  refine lv_iconst (v := nI 0) hx hb dX4_before_0 (by decide) ?_
  refine lv_istore_n (lv' := [(2, .int (nI 0)), (0, .ref b), (1, .int num)]) hx hb dX4_before_1 rfl hl (by decide) rfl (fun ls hl => ?_)
  refine lp_loop (σ := hm_I) (fun i2 x2 => ∀ (H : Heap) (locs : List Loc) (ls : Array Slot), hm D T L A Sh x2 J H → va_S A s_.heap H locs → lv_has ls 4 [(0, .ref b), (1, .int num), (2, .int (nI i2))] → W p_ l e_ R s_ m_ args_ below_ meth_ c_ H locs 0 0 Qq (F0 m_ 2 ls [])) 428 (fun i2 x2 => hm_put x2 (b + 5) i2 (x2 (b + 1) i2)) I (fun _ _ => True) trivial (fun _ _ _ _ => trivial) (fun i2 x2 hi1 hv2 k3 H locs ls hM hS hl => ?_) (fun hv2 H locs ls hM hS hl => ?_) _ _ _ hM hS (lv_sub hl [1, 2, 0] rfl)
  · have stp4 : ∀ yy_ : hm_I, yy_ = (hm_put x2 (b + 5) i2 (x2 (b + 1) i2)) → ∀ (H : Heap) (locs : List Loc) (ls : Array Slot), hm D T L A Sh yy_ J H → va_S A s_.heap H locs → lv_has ls 4 [(0, .ref b), (1, .int num), (2, .int (nI (i2 + 1)))] → W p_ l e_ R s_ m_ args_ below_ meth_ c_ H locs 0 0 Qq (F0 m_ 2 ls []) := fun yy_ ey => by rw [ey]; exact k3
    refine lv_iload_n hx hb dX4_before_2 rfl (lv_at hl 2 rfl) ?_
    refine lv_sipush (v := nI 428) hx hb dX4_before_3 (by decide) ?_
    refine mr_geN (x := i2) (y := 428) (tgt := 27) C0 dX4_before_6 (by decide) (by omega) (by omega) (fun c5 => absurd c5 (by omega)) (fun c5 => ?_)
    refine lv_aload_n hx hb dX4_before_9 rfl (lv_at hl 0 rfl) ?_
    refine mr_getr (r := b + 5) (TT := TX4) (N := 10) C0 uX4_before_X4 hM hMo.1.1 hMo.1.2 rfl 6 (by decide) rfl kX4_before_f22 rfl dX4_before_10 ?_
    refine lv_iload_n hx hb dX4_before_13 rfl (lv_at hl 2 rfl) ?_
    refine lv_aload_n hx hb dX4_before_14 rfl (lv_at hl 0 rfl) ?_
    refine mr_getr (r := b + 1) (TT := TX4) (N := 10) C0 uX4_before_X4 hM hMo.1.1 hMo.1.2 rfl 0 (by decide) rfl kX4_before_f7 rfl dX4_before_15 ?_
    refine lv_iload_n hx hb dX4_before_18 rfl (lv_at hl 2 rfl) ?_
    refine mr_ialdN (v := x2 (b + 1) i2) C0 hM hMo.2.1.1 hMo.2.1.2 (by decide) (by omega) rfl dX4_before_19 ?_
    refine mr_iastN C0 hM hS hMo.2.2.2.2.2.1.1 hMo.2.2.2.2.2.1.2 (by decide) (by omega) dX4_before_20 (fun H locs hM hS => ?_)
    refine lv_iinc (v := nI (i2 + 1)) (lv' := [(2, .int (nI (i2 + 1))), (0, .ref b), (1, .int num)]) hx hb dX4_before_21 hl (k := 2) rfl (nI_1 _) (by decide) rfl (fun ls hl => ?_)
    refine lv_goto (tgt := 2) hx hb dX4_before_24 (by decide) ?_
    exact stp4 (hm_put x2 (b + 5) i2 (x2 (b + 1) i2)) rfl H locs ls hM hS (lv_sub hl [1, 2, 0] rfl)
  · skip
    refine lv_iload_n hx hb dX4_before_2 rfl (lv_at hl 2 rfl) ?_
    refine lv_sipush (v := nI 428) hx hb dX4_before_3 (by decide) ?_
    refine mr_geN (x := 428) (y := 428) (tgt := 27) C0 dX4_before_6 (by decide) (by decide) (by decide) (fun _ => ?_) (fun c6 => absurd c6 (by decide))
    refine lv_iconst (v := nI 0) hx hb dX4_before_27 (by decide) ?_
    refine lv_istore_n (lv' := [(2, .int (nI 0)), (0, .ref b), (1, .int num)]) hx hb dX4_before_28 rfl hl (by decide) rfl (fun ls hl => ?_)
    refine lp_loop (σ := hm_I) (fun i29 x29 => ∀ (H : Heap) (locs : List Loc) (ls : Array Slot), hm D T L A Sh x29 J H → va_S A s_.heap H locs → lv_has ls 4 [(0, .ref b), (1, .int num), (2, .int (nI i29))] → W p_ l e_ R s_ m_ args_ below_ meth_ c_ H locs 0 0 Qq (F0 m_ 29 ls [])) m (fun i29 x29 => (fX4_sendNext_t x29 b (cM (x29 (b + 1))) (eM (x29 (b + 1))) (lgM (x29 (b + 1))) ((nsM x29 b).1.toNatClampNeg)).2) (lp 428 (fun i2 x2 => hm_put x2 (b + 5) i2 (x2 (b + 1) i2)) I) (fun (i29 : Nat) (x29 : hm_I) => WfC (x29 (b + 1)) ∧ Inv i29 x29) ⟨hB.2.1, hB.2.2.1⟩ (fun i x hi hv => ⟨hB.2.2.2.1 i x hi hv.1 hv.2, hB.2.2.2.2.1 i x hi hv.1 hv.2⟩) (fun i29 x29 hi7 hv8 k9 H locs ls hM hS hl => ?_) (fun hv8 H locs ls hM hS hl => ?_) _ _ _ hM hS (lv_sub hl [1, 2, 0] rfl)
    · have stp10 : ∀ yy_ : hm_I, yy_ = ((fX4_sendNext_t x29 b (cM (x29 (b + 1))) (eM (x29 (b + 1))) (lgM (x29 (b + 1))) ((nsM x29 b).1.toNatClampNeg)).2) → ∀ (H : Heap) (locs : List Loc) (ls : Array Slot), hm D T L A Sh yy_ J H → va_S A s_.heap H locs → lv_has ls 4 [(0, .ref b), (1, .int num), (2, .int (nI (i29 + 1)))] → W p_ l e_ R s_ m_ args_ below_ meth_ c_ H locs 0 0 Qq (F0 m_ 29 ls []) := fun yy_ ey => by rw [ey]; exact k9
      have hok := hB.2.2.2.2.2.1 i29 x29 (Nat.le_of_lt hi7) hv8.1 hv8.2
      have hne0 := hB.2.2.2.2.2.2.1 i29 x29 hi7 hv8.1 hv8.2
      refine lv_aload_n hx hb dX4_before_29 rfl (lv_at hl 0 rfl) ?_
      refine mr_callV (As := []) C0 (ctX4_sendNext_t (I := x29) (J := J) (b := b) hMo (hv8.1) hok.1 hok.2.1 hok.2.2) (cwV 0 C0.1.2.2.2.2 gX4_before_X4_sendNext rfl rfl rfl (by decide +kernel) (by rw [hR]; exact ⟨Nat.le_of_ble_eq_true rfl, Nat.le_of_ble_eq_true rfl⟩)) hM hMo.1.1 hMo.1.2 rfl rfl hM hS rfl rfl rfl hl.1 (Nat.le_of_ble_eq_true rfl) dX4_before_30 (by rw [hR]; exact ⟨Nat.zero_le _, Nat.zero_le _⟩) (fun H locs hM hS => ?_)
      refine lv_iload_n hx hb dX4_before_33 rfl (lv_at hl 1 rfl) ?_
      refine lv_icmp_eq (tgt := 43) hx hb dX4_before_34 (by decide) (fun c11 => absurd c11 hne0) (fun c11 => ?_)
      refine lv_iinc (v := nI (i29 + 1)) (lv' := [(2, .int (nI (i29 + 1))), (0, .ref b), (1, .int num)]) hx hb dX4_before_37 hl (k := 2) rfl (nI_1 _) (by decide) rfl (fun ls hl => ?_)
      refine lv_goto (tgt := 29) hx hb dX4_before_40 (by decide) ?_
      exact stp10 ((fX4_sendNext_t x29 b (cM (x29 (b + 1))) (eM (x29 (b + 1))) (lgM (x29 (b + 1))) ((nsM x29 b).1.toNatClampNeg)).2) rfl H locs ls hM hS (lv_sub hl [1, 2, 0] rfl)
    · skip
      have hok := hB.2.2.2.2.2.1 m _ (Nat.le_refl _) hv8.1 hv8.2
      have hE := hB.2.2.2.2.2.2.2 _ hv8.1 hv8.2
      refine lv_aload_n hx hb dX4_before_29 rfl (lv_at hl 0 rfl) ?_
      refine mr_callV (As := []) C0 (ctX4_sendNext_t (I := (lp m (fun i29 x29 => (fX4_sendNext_t x29 b (cM (x29 (b + 1))) (eM (x29 (b + 1))) (lgM (x29 (b + 1))) ((nsM x29 b).1.toNatClampNeg)).2) (lp 428 (fun i2 x2 => hm_put x2 (b + 5) i2 (x2 (b + 1) i2)) I))) (J := J) (b := b) hMo (hv8.1) hok.1 hok.2.1 hok.2.2) (cwV 0 C0.1.2.2.2.2 gX4_before_X4_sendNext rfl rfl rfl (by decide +kernel) (by rw [hR]; exact ⟨Nat.le_of_ble_eq_true rfl, Nat.le_of_ble_eq_true rfl⟩)) hM hMo.1.1 hMo.1.2 rfl rfl hM hS rfl rfl rfl hl.1 (Nat.le_of_ble_eq_true rfl) dX4_before_30 (by rw [hR]; exact ⟨Nat.zero_le _, Nat.zero_le _⟩) (fun H locs hM hS => ?_)
      refine lv_iload_n hx hb dX4_before_33 rfl (lv_at hl 1 rfl) ?_
      refine lv_icmp_eq (tgt := 43) hx hb dX4_before_34 (by decide) (fun c12 => ?_) (fun c12 => absurd hE c12)
      refine lv_iconst (v := nI 0) hx hb dX4_before_43 (by decide) ?_
      refine lv_istore_n (lv' := [(3, .int (nI 0)), (0, .ref b), (1, .int num), (2, .int (nI m))]) hx hb dX4_before_44 rfl hl (by decide) rfl (fun ls hl => ?_)
      refine lp_loop (σ := hm_I) (fun i45 x45 => ∀ (H : Heap) (locs : List Loc) (ls : Array Slot), hm D T L A Sh x45 J H → va_S A s_.heap H locs → lv_has ls 4 [(0, .ref b), (2, .int (nI m)), (3, .int (nI i45))] → W p_ l e_ R s_ m_ args_ below_ meth_ c_ H locs 0 0 Qq (F0 m_ 45 ls [])) 428 (fun i45 x45 => hm_put x45 (b + 1) i45 (x45 (b + 5) i45)) ((fX4_sendNext_t (lp m (fun i29 x29 => (fX4_sendNext_t x29 b (cM (x29 (b + 1))) (eM (x29 (b + 1))) (lgM (x29 (b + 1))) ((nsM x29 b).1.toNatClampNeg)).2) (lp 428 (fun i2 x2 => hm_put x2 (b + 5) i2 (x2 (b + 1) i2)) I)) b (cM ((lp m (fun i29 x29 => (fX4_sendNext_t x29 b (cM (x29 (b + 1))) (eM (x29 (b + 1))) (lgM (x29 (b + 1))) ((nsM x29 b).1.toNatClampNeg)).2) (lp 428 (fun i2 x2 => hm_put x2 (b + 5) i2 (x2 (b + 1) i2)) I)) (b + 1))) (eM ((lp m (fun i29 x29 => (fX4_sendNext_t x29 b (cM (x29 (b + 1))) (eM (x29 (b + 1))) (lgM (x29 (b + 1))) ((nsM x29 b).1.toNatClampNeg)).2) (lp 428 (fun i2 x2 => hm_put x2 (b + 5) i2 (x2 (b + 1) i2)) I)) (b + 1))) (lgM ((lp m (fun i29 x29 => (fX4_sendNext_t x29 b (cM (x29 (b + 1))) (eM (x29 (b + 1))) (lgM (x29 (b + 1))) ((nsM x29 b).1.toNatClampNeg)).2) (lp 428 (fun i2 x2 => hm_put x2 (b + 5) i2 (x2 (b + 1) i2)) I)) (b + 1))) ((nsM (lp m (fun i29 x29 => (fX4_sendNext_t x29 b (cM (x29 (b + 1))) (eM (x29 (b + 1))) (lgM (x29 (b + 1))) ((nsM x29 b).1.toNatClampNeg)).2) (lp 428 (fun i2 x2 => hm_put x2 (b + 5) i2 (x2 (b + 1) i2)) I)) b).1.toNatClampNeg)).2) (fun _ _ => True) trivial (fun _ _ _ _ => trivial) (fun i45 x45 hi13 hv14 k15 H locs ls hM hS hl => ?_) (fun hv14 H locs ls hM hS hl => ?_) _ _ _ hM hS (lv_sub hl [1, 3, 0] rfl)
      · have stp16 : ∀ yy_ : hm_I, yy_ = (hm_put x45 (b + 1) i45 (x45 (b + 5) i45)) → ∀ (H : Heap) (locs : List Loc) (ls : Array Slot), hm D T L A Sh yy_ J H → va_S A s_.heap H locs → lv_has ls 4 [(0, .ref b), (2, .int (nI m)), (3, .int (nI (i45 + 1)))] → W p_ l e_ R s_ m_ args_ below_ meth_ c_ H locs 0 0 Qq (F0 m_ 45 ls []) := fun yy_ ey => by rw [ey]; exact k15
        refine lv_iload_n hx hb dX4_before_45 rfl (lv_at hl 2 rfl) ?_
        refine lv_sipush (v := nI 428) hx hb dX4_before_46 (by decide) ?_
        refine mr_geN (x := i45) (y := 428) (tgt := 70) C0 dX4_before_49 (by decide) (by omega) (by omega) (fun c17 => absurd c17 (by omega)) (fun c17 => ?_)
        refine lv_aload_n hx hb dX4_before_52 rfl (lv_at hl 0 rfl) ?_
        refine mr_getr (r := b + 1) (TT := TX4) (N := 10) C0 uX4_before_X4 hM hMo.1.1 hMo.1.2 rfl 0 (by decide) rfl kX4_before_f7 rfl dX4_before_53 ?_
        refine lv_iload_n hx hb dX4_before_56 rfl (lv_at hl 2 rfl) ?_
        refine lv_aload_n hx hb dX4_before_57 rfl (lv_at hl 0 rfl) ?_
        refine mr_getr (r := b + 5) (TT := TX4) (N := 10) C0 uX4_before_X4 hM hMo.1.1 hMo.1.2 rfl 6 (by decide) rfl kX4_before_f22 rfl dX4_before_58 ?_
        refine lv_iload_n hx hb dX4_before_61 rfl (lv_at hl 2 rfl) ?_
        refine mr_ialdN (v := x45 (b + 5) i45) C0 hM hMo.2.2.2.2.2.1.1 hMo.2.2.2.2.2.1.2 (by decide) (by omega) rfl dX4_before_62 ?_
        refine mr_iastN C0 hM hS hMo.2.1.1 hMo.2.1.2 (by decide) (by omega) dX4_before_63 (fun H locs hM hS => ?_)
        refine lv_iinc (v := nI (i45 + 1)) (lv' := [(3, .int (nI (i45 + 1))), (0, .ref b), (2, .int (nI m))]) hx hb dX4_before_64 hl (k := 2) rfl (nI_1 _) (by decide) rfl (fun ls hl => ?_)
        refine lv_goto (tgt := 45) hx hb dX4_before_67 (by decide) ?_
        exact stp16 (hm_put x45 (b + 1) i45 (x45 (b + 5) i45)) rfl H locs ls hM hS (lv_sub hl [1, 2, 0] rfl)
      · skip
        refine lv_iload_n hx hb dX4_before_45 rfl (lv_at hl 2 rfl) ?_
        refine lv_sipush (v := nI 428) hx hb dX4_before_46 (by decide) ?_
        refine mr_geN (x := 428) (y := 428) (tgt := 70) C0 dX4_before_49 (by decide) (by decide) (by decide) (fun _ => ?_) (fun c18 => absurd c18 (by decide))
        refine lv_iload_n hx hb dX4_before_70 rfl (lv_at hl 1 rfl) ?_
        have eF : (nI m, (lp 428 (fun i45 x45 => hm_put x45 (b + 1) i45 (x45 (b + 5) i45)) ((fX4_sendNext_t (lp m (fun i29 x29 => (fX4_sendNext_t x29 b (cM (x29 (b + 1))) (eM (x29 (b + 1))) (lgM (x29 (b + 1))) ((nsM x29 b).1.toNatClampNeg)).2) (lp 428 (fun i2 x2 => hm_put x2 (b + 5) i2 (x2 (b + 1) i2)) I)) b (cM ((lp m (fun i29 x29 => (fX4_sendNext_t x29 b (cM (x29 (b + 1))) (eM (x29 (b + 1))) (lgM (x29 (b + 1))) ((nsM x29 b).1.toNatClampNeg)).2) (lp 428 (fun i2 x2 => hm_put x2 (b + 5) i2 (x2 (b + 1) i2)) I)) (b + 1))) (eM ((lp m (fun i29 x29 => (fX4_sendNext_t x29 b (cM (x29 (b + 1))) (eM (x29 (b + 1))) (lgM (x29 (b + 1))) ((nsM x29 b).1.toNatClampNeg)).2) (lp 428 (fun i2 x2 => hm_put x2 (b + 5) i2 (x2 (b + 1) i2)) I)) (b + 1))) (lgM ((lp m (fun i29 x29 => (fX4_sendNext_t x29 b (cM (x29 (b + 1))) (eM (x29 (b + 1))) (lgM (x29 (b + 1))) ((nsM x29 b).1.toNatClampNeg)).2) (lp 428 (fun i2 x2 => hm_put x2 (b + 5) i2 (x2 (b + 1) i2)) I)) (b + 1))) ((nsM (lp m (fun i29 x29 => (fX4_sendNext_t x29 b (cM (x29 (b + 1))) (eM (x29 (b + 1))) (lgM (x29 (b + 1))) ((nsM x29 b).1.toNatClampNeg)).2) (lp 428 (fun i2 x2 => hm_put x2 (b + 5) i2 (x2 (b + 1) i2)) I)) b).1.toNatClampNeg)).2))) = fX4_before_t I b m := rfl
        exact mr_iret (v := nI m) C0 hr hlk hQ hS (by rw [← eF]) (by rw [← eF]; exact hM) (Nat.le_refl _) (Nat.le_refl _) dX4_before_71
/-- what sendSome's sendings stand on: m of them, each fits; then none waits (endA), or the next doesn't fit (endB) -/
def szM (x : hm_I) (b : Nat) : Int32 := (nsM x b).2 (b + 1) (32 + 18 * (nsM x b).1.toNatClampNeg + 3 * 0 + 1)
def ss1 (x : hm_I × Int32) (b : Nat) : hm_I × Int32 := ((fX4_sendNext_t (nsM x.1 b).2 b (cM (x.1 (b + 1))) (eM (x.1 (b + 1))) (lgM (x.1 (b + 1))) (nsM x.1 b).1.toNatClampNeg).2, x.2 + szM x.1 b)
def SomeOk (I : hm_I) (b m : Nat) (bud : Int32) (Inv : Nat → hm_I × Int32 → Prop) : Prop :=
  m < 1000 ∧ WfC (I (b + 1)) ∧ Inv 0 (I, nI 0) ∧ (∀ i x, i < m → WfC (x.1 (b + 1)) → Inv i x → WfC ((ss1 x b).1 (b + 1))) ∧ (∀ i x, i < m → WfC (x.1 (b + 1)) → Inv i x → Inv (i + 1) (ss1 x b)) ∧
  (∀ i x, i < m → WfC (x.1 (b + 1)) → Inv i x → okM x.1 b) ∧ (∀ i x, i < m → WfC (x.1 (b + 1)) → Inv i x → ¬ bud < x.2 + szM x.1 b)
def endA (b m : Nat) (Inv : Nat → hm_I × Int32 → Prop) : Prop := ∀ x, WfC (x.1 (b + 1)) → Inv m x → (nsM x.1 b).1 = -9
def endB (b m : Nat) (bud : Int32) (Inv : Nat → hm_I × Int32 → Prop) : Prop := ∀ x, WfC (x.1 (b + 1)) → Inv m x → okM x.1 b ∧ bud < x.2 + szM x.1 b
def fX4_sendSome_tA (I : hm_I) (b pm m : Nat) : Int32 × hm_I :=
  (nI m, (fX4_nextStream ((lp m (fun i24 x24 => ((fX4_sendNext_t ((fX4_nextStream x24.1 b (cM (x24.1 (b + 1))) (eM (x24.1 (b + 1)))).2) b (cM (x24.1 (b + 1))) (eM (x24.1 (b + 1))) (lgM (x24.1 (b + 1))) ((nsM x24.1 b).1.toNatClampNeg)).2, x24.2 + (((fX4_nextStream x24.1 b (cM (x24.1 (b + 1))) (eM (x24.1 (b + 1)))).2) (b + 1) (32 + 18 * ((nsM x24.1 b).1.toNatClampNeg) + 3 * 0 + 1)))) ((fX4_remember I b pm), (nI 0))).1) b (cM ((lp m (fun i24 x24 => ((fX4_sendNext_t ((fX4_nextStream x24.1 b (cM (x24.1 (b + 1))) (eM (x24.1 (b + 1)))).2) b (cM (x24.1 (b + 1))) (eM (x24.1 (b + 1))) (lgM (x24.1 (b + 1))) ((nsM x24.1 b).1.toNatClampNeg)).2, x24.2 + (((fX4_nextStream x24.1 b (cM (x24.1 (b + 1))) (eM (x24.1 (b + 1)))).2) (b + 1) (32 + 18 * ((nsM x24.1 b).1.toNatClampNeg) + 3 * 0 + 1)))) ((fX4_remember I b pm), (nI 0))).1 (b + 1))) (eM ((lp m (fun i24 x24 => ((fX4_sendNext_t ((fX4_nextStream x24.1 b (cM (x24.1 (b + 1))) (eM (x24.1 (b + 1)))).2) b (cM (x24.1 (b + 1))) (eM (x24.1 (b + 1))) (lgM (x24.1 (b + 1))) ((nsM x24.1 b).1.toNatClampNeg)).2, x24.2 + (((fX4_nextStream x24.1 b (cM (x24.1 (b + 1))) (eM (x24.1 (b + 1)))).2) (b + 1) (32 + 18 * ((nsM x24.1 b).1.toNatClampNeg) + 3 * 0 + 1)))) ((fX4_remember I b pm), (nI 0))).1 (b + 1)))).2)
set_option maxHeartbeats 4000000 in
set_option maxRecDepth 100000 in
theorem ctX4_sendSome_tA {l : Launch} {D : va_G} {T : Nat → ClassId} {L : List Nat} {A : Nat → Prop} {Sh : hm_S} {I : hm_I} {J : hm_J} {b : Nat} (hMo : IsM L Sh b) {pm : Nat} (hpm : I b 2 = nI pm) (hp8 : pm ≤ 8) {bud : Int32} {m : Nat} {Inv : Nat → hm_I × Int32 → Prop} (hw0 : fX4_isIn bud (nI 0) (nI 999) = true) (hB : SomeOk (fX4_remember I b pm) b m bud Inv) (hEnd : endA b m Inv) :
    Ct l yX4_sendSome wsX4_sendSome { frames := 6, cells := 0, slots := 0, locals := 137 } 0 0 D T A [.ref b, .int bud] (hm D T L A Sh I J) (some (.int ((fX4_sendSome_tA I b pm m).1))) (hm D T L A Sh ((fX4_sendSome_tA I b pm m).2) J) := by
  refine Ct.ofW (cc := cX4_sendSome) (maxL := 7) (ret := (some .int)) (by decide) rfl (Nat.le_of_ble_eq_true rfl) ?_
  intro p_ e_ s_ m_ args_ below_ meth_ c_ ls R Qq hR hQ C0 hr hlk hname hM hl
  have hx := C0.1.1
  have hb := C0.1.2.1
  have hS : va_S A s_.heap s_.heap [] := va_S.rf
  have hl : lv_has ls 7 [(0, .ref b), (1, .int bud)] := hl
  have hm48 := hB.1
  refine lv_iload_n hx hb dX4_sendSome_0 rfl (lv_at hl 1 rfl) ?_
  refine lv_iconst (v := nI 0) hx hb dX4_sendSome_1 (by decide) ?_
  refine lv_sipush (v := nI 999) hx hb dX4_sendSome_2 (by decide) ?_
  refine mr_callS (As := [.int bud, .int (nI 0), .int (nI 999)]) C0 (ctX4_isIn (I := I) (J := J) (v := bud) (lo := (nI 0)) (up := (nI 999)) ) (va_cwS 3 C0.1.2.2.2.2 gX4_sendSome_X4_isIn rfl rfl rfl (by decide +kernel) (by rw [hR]; exact ⟨Nat.le_of_ble_eq_true rfl, Nat.le_of_ble_eq_true rfl⟩)) hM hS rfl rfl rfl hl.1 (Nat.le_of_ble_eq_true rfl) dX4_sendSome_5 (by rw [hR]; exact ⟨Nat.zero_le _, Nat.zero_le _⟩) (fun H locs hM hS => ?_)
  refine mr_neB (tgt := 13) C0 dX4_sendSome_8 (by decide) (fun c1 => ?_) (fun c1 => absurd c1 (by rw [hw0]; decide))
  refine lv_aload_n hx hb dX4_sendSome_13 rfl (lv_at hl 0 rfl) ?_
  refine mr_callV (As := []) C0 (ctX4_remember (I := I) (J := J) (b := b) hMo hpm (by omega)) (cwV 0 C0.1.2.2.2.2 gX4_sendSome_X4_remember rfl rfl rfl (by decide +kernel) (by rw [hR]; exact ⟨Nat.le_of_ble_eq_true rfl, Nat.le_of_ble_eq_true rfl⟩)) hM hMo.1.1 hMo.1.2 rfl rfl hM hS rfl rfl rfl hl.1 (Nat.le_of_ble_eq_true rfl) dX4_sendSome_14 (by rw [hR]; exact ⟨Nat.zero_le _, Nat.zero_le _⟩) (fun H locs hM hS => ?_)
  refine lv_iconst (v := nI 0) hx hb dX4_sendSome_17 (by decide) ?_
  refine lv_istore_n (lv' := [(2, .int (nI 0)), (0, .ref b), (1, .int bud)]) hx hb dX4_sendSome_18 rfl hl (by decide) rfl (fun ls hl => ?_)
  refine lv_iconst (v := nI 0) hx hb dX4_sendSome_19 (by decide) ?_
  refine lv_istore_n (lv' := [(3, .int (nI 0)), (2, .int (nI 0)), (0, .ref b), (1, .int bud)]) hx hb dX4_sendSome_20 rfl hl (by decide) rfl (fun ls hl => ?_)
  refine lv_iconst (v := nI 1) hx hb dX4_sendSome_21 (by decide) ?_
  refine lv_istore (lv' := [(4, .int (nI 1)), (3, .int (nI 0)), (2, .int (nI 0)), (0, .ref b), (1, .int bud)]) hx hb dX4_sendSome_22 hl (by decide) rfl (fun ls hl => ?_)
  refine lp_loop (σ := hm_I × Int32) (fun i24 x24 => ∀ (H : Heap) (locs : List Loc) (ls : Array Slot), hm D T L A Sh x24.1 J H → va_S A s_.heap H locs → lv_has ls 7 [(0, .ref b), (1, .int bud), (2, .int x24.2), (3, .int (nI i24)), (4, .int (bI true))] → W p_ l e_ R s_ m_ args_ below_ meth_ c_ H locs 0 0 Qq (F0 m_ 24 ls [])) m (fun i24 x24 => ((fX4_sendNext_t ((fX4_nextStream x24.1 b (cM (x24.1 (b + 1))) (eM (x24.1 (b + 1)))).2) b (cM (x24.1 (b + 1))) (eM (x24.1 (b + 1))) (lgM (x24.1 (b + 1))) ((nsM x24.1 b).1.toNatClampNeg)).2, x24.2 + (((fX4_nextStream x24.1 b (cM (x24.1 (b + 1))) (eM (x24.1 (b + 1)))).2) (b + 1) (32 + 18 * ((nsM x24.1 b).1.toNatClampNeg) + 3 * 0 + 1)))) ((fX4_remember I b pm), (nI 0)) (fun (i24 : Nat) (x24 : hm_I × Int32) => WfC (x24.1 (b + 1)) ∧ Inv i24 x24) ⟨hB.2.1, hB.2.2.1⟩ (fun i x hi hv => ⟨hB.2.2.2.1 i x hi hv.1 hv.2, hB.2.2.2.2.1 i x hi hv.1 hv.2⟩) (fun i24 x24 hi2 hv3 k4 H locs ls hM hS hl => ?_) (fun hv3 H locs ls hM hS hl => ?_) _ _ _ hM hS (lv_sub hl [3, 4, 2, 1, 0] rfl)
  · have stp5 : ∀ yy_ : hm_I × Int32, yy_ = (((fX4_sendNext_t ((fX4_nextStream x24.1 b (cM (x24.1 (b + 1))) (eM (x24.1 (b + 1)))).2) b (cM (x24.1 (b + 1))) (eM (x24.1 (b + 1))) (lgM (x24.1 (b + 1))) ((nsM x24.1 b).1.toNatClampNeg)).2, x24.2 + (((fX4_nextStream x24.1 b (cM (x24.1 (b + 1))) (eM (x24.1 (b + 1)))).2) (b + 1) (32 + 18 * ((nsM x24.1 b).1.toNatClampNeg) + 3 * 0 + 1)))) → ∀ (H : Heap) (locs : List Loc) (ls : Array Slot), hm D T L A Sh yy_.1 J H → va_S A s_.heap H locs → lv_has ls 7 [(0, .ref b), (1, .int bud), (2, .int yy_.2), (3, .int (nI (i24 + 1))), (4, .int (bI true))] → W p_ l e_ R s_ m_ args_ below_ meth_ c_ H locs 0 0 Qq (F0 m_ 24 ls []) := fun yy_ ey => by rw [ey]; exact k4
    have hok := hB.2.2.2.2.2.1 i24 x24 hi2 hv3.1 hv3.2
    have hok1 := hok.1
    have hfit := hB.2.2.2.2.2.2 i24 x24 hi2 hv3.1 hv3.2
    refine lv_iload hx hb dX4_sendSome_24 (lv_at hl 4 rfl) ?_
    refine mr_eqB (tgt := 91) C0 dX4_sendSome_26 (by decide) (fun c6 => absurd c6 (by decide)) (fun _ => ?_)
    refine lv_aload_n hx hb dX4_sendSome_29 rfl (lv_at hl 0 rfl) ?_
    refine mr_callV (As := []) C0 (ctX4_nextStream (I := x24.1) (J := J) (b := b) hMo (hv3.1)) (cwV 0 C0.1.2.2.2.2 gX4_sendSome_X4_nextStream rfl rfl rfl (by decide +kernel) (by rw [hR]; exact ⟨Nat.le_of_ble_eq_true rfl, Nat.le_of_ble_eq_true rfl⟩)) hM hMo.1.1 hMo.1.2 rfl rfl hM hS rfl rfl rfl hl.1 (Nat.le_of_ble_eq_true rfl) dX4_sendSome_30 (by rw [hR]; exact ⟨Nat.zero_le _, Nat.zero_le _⟩) (fun H locs hM hS => ?_)
    refine lv_istore (lv' := [(5, .int ((fX4_nextStream x24.1 b (cM (x24.1 (b + 1))) (eM (x24.1 (b + 1)))).1)), (0, .ref b), (1, .int bud), (2, .int x24.2), (3, .int (nI i24)), (4, .int (bI true))]) hx hb dX4_sendSome_33 hl (by decide) rfl (fun ls hl => ?_)
    refine lv_iload hx hb dX4_sendSome_35 (lv_at hl 0 rfl) ?_
    refine lv_bipush (v := (-9)) hx hb dX4_sendSome_37 (by decide) ?_
    refine lv_icmp_eq (tgt := 60) hx hb dX4_sendSome_39 (by decide) (fun c7 => absurd (hok.2.2.symm.trans c7) (nI_ne_m9 (by omega))) (fun c7 => ?_)
    refine lv_iload_n hx hb dX4_sendSome_42 rfl (lv_at hl 3 rfl) ?_
    refine lv_aload_n hx hb dX4_sendSome_43 rfl (lv_at hl 1 rfl) ?_
    refine lv_iload hx hb dX4_sendSome_44 (lv_at hl 0 rfl) ?_
    refine mr_top (y := nI (nsM x24.1 b).1.toNatClampNeg) hok.2.2 ?_
    refine lv_iconst (v := nI 0) hx hb dX4_sendSome_46 (by decide) ?_
    refine lv_iconst (v := nI 1) hx hb dX4_sendSome_47 (by decide) ?_
    refine mr_callV (As := [.int (nI ((nsM x24.1 b).1.toNatClampNeg)), .int (nI 0), .int (nI 1)]) C0 (ctX4_frameAt_t (I := ((fX4_nextStream x24.1 b (cM (x24.1 (b + 1))) (eM (x24.1 (b + 1)))).2)) (J := J) (b := b) (s0 := ((nsM x24.1 b).1.toNatClampNeg)) (k0 := 0) (w0 := 1) hMo (by omega)) (cwV 3 C0.1.2.2.2.2 gX4_sendSome_X4_frameAt rfl rfl rfl (by decide +kernel) (by rw [hR]; exact ⟨Nat.le_of_ble_eq_true rfl, Nat.le_of_ble_eq_true rfl⟩)) hM hMo.1.1 hMo.1.2 rfl rfl hM hS rfl rfl rfl hl.1 (Nat.le_of_ble_eq_true rfl) dX4_sendSome_48 (by rw [hR]; exact ⟨Nat.zero_le _, Nat.zero_le _⟩) (fun H locs hM hS => ?_)
    refine lv_iadd hx hb dX4_sendSome_51 ?_
    refine lv_iload_n hx hb dX4_sendSome_52 rfl (lv_at hl 2 rfl) ?_
    refine lv_icmp_gt (tgt := 60) hx hb dX4_sendSome_53 (by decide) (fun c8 => absurd c8 hfit) (fun c8 => ?_)
    refine lv_iconst (v := nI 1) hx hb dX4_sendSome_56 (by decide) ?_
    refine lv_goto (tgt := 61) hx hb dX4_sendSome_57 (by decide) ?_
    refine lv_istore (lv' := [(4, .int (nI 1)), (5, .int ((fX4_nextStream x24.1 b (cM (x24.1 (b + 1))) (eM (x24.1 (b + 1)))).1)), (0, .ref b), (1, .int bud), (2, .int x24.2), (3, .int (nI i24))]) hx hb dX4_sendSome_61 hl (by decide) rfl (fun ls hl => ?_)
    refine lv_iload hx hb dX4_sendSome_63 (lv_at hl 0 rfl) ?_
    refine lv_if_eq (x := nI 1) (tgt := 88) hx hb dX4_sendSome_65 (by decide) (fun c9 => absurd c9 (by decide)) (fun _ => ?_)
    refine lv_iload_n hx hb dX4_sendSome_68 rfl (lv_at hl 4 rfl) ?_
    refine lv_aload_n hx hb dX4_sendSome_69 rfl (lv_at hl 2 rfl) ?_
    refine lv_iload hx hb dX4_sendSome_70 (lv_at hl 1 rfl) ?_
    refine mr_top (y := nI (nsM x24.1 b).1.toNatClampNeg) hok.2.2 ?_
    refine lv_iconst (v := nI 0) hx hb dX4_sendSome_72 (by decide) ?_
    refine lv_iconst (v := nI 1) hx hb dX4_sendSome_73 (by decide) ?_
    refine mr_callV (As := [.int (nI ((nsM x24.1 b).1.toNatClampNeg)), .int (nI 0), .int (nI 1)]) C0 (ctX4_frameAt_t (I := ((fX4_nextStream x24.1 b (cM (x24.1 (b + 1))) (eM (x24.1 (b + 1)))).2)) (J := J) (b := b) (s0 := ((nsM x24.1 b).1.toNatClampNeg)) (k0 := 0) (w0 := 1) hMo (by omega)) (cwV 3 C0.1.2.2.2.2 gX4_sendSome_X4_frameAt rfl rfl rfl (by decide +kernel) (by rw [hR]; exact ⟨Nat.le_of_ble_eq_true rfl, Nat.le_of_ble_eq_true rfl⟩)) hM hMo.1.1 hMo.1.2 rfl rfl hM hS rfl rfl rfl hl.1 (Nat.le_of_ble_eq_true rfl) dX4_sendSome_74 (by rw [hR]; exact ⟨Nat.zero_le _, Nat.zero_le _⟩) (fun H locs hM hS => ?_)
    refine lv_iadd hx hb dX4_sendSome_77 ?_
    refine lv_istore_n (lv' := [(2, .int (x24.2 + (((fX4_nextStream x24.1 b (cM (x24.1 (b + 1))) (eM (x24.1 (b + 1)))).2) (b + 1) (32 + 18 * ((nsM x24.1 b).1.toNatClampNeg) + 3 * 0 + 1)))), (4, .int (nI 1)), (5, .int ((fX4_nextStream x24.1 b (cM (x24.1 (b + 1))) (eM (x24.1 (b + 1)))).1)), (0, .ref b), (1, .int bud), (3, .int (nI i24))]) hx hb dX4_sendSome_78 rfl hl (by decide) rfl (fun ls hl => ?_)
    refine lv_iinc (v := nI (i24 + 1)) (lv' := [(3, .int (nI (i24 + 1))), (2, .int (x24.2 + (((fX4_nextStream x24.1 b (cM (x24.1 (b + 1))) (eM (x24.1 (b + 1)))).2) (b + 1) (32 + 18 * ((nsM x24.1 b).1.toNatClampNeg) + 3 * 0 + 1)))), (4, .int (nI 1)), (5, .int ((fX4_nextStream x24.1 b (cM (x24.1 (b + 1))) (eM (x24.1 (b + 1)))).1)), (0, .ref b), (1, .int bud)]) hx hb dX4_sendSome_79 hl (k := 5) rfl (nI_1 _) (by decide) rfl (fun ls hl => ?_)
    refine lv_aload_n hx hb dX4_sendSome_82 rfl (lv_at hl 4 rfl) ?_
    refine mr_callV (As := []) C0 (ctX4_sendNext_t (I := ((fX4_nextStream x24.1 b (cM (x24.1 (b + 1))) (eM (x24.1 (b + 1)))).2)) (J := J) (b := b) hMo (show WfM (((fX4_nextStream x24.1 b (cM (x24.1 (b + 1))) (eM (x24.1 (b + 1)))).2) (b + 1)) (cM (x24.1 (b + 1))) (eM (x24.1 (b + 1))) (epM (x24.1 (b + 1))) (lgM (x24.1 (b + 1))) from WfM_eq (fX4_nextStream_ne (by omega)) (hv3.1)) hok.1 hok.2.1 ((nextStream_same (fX4_nextStream_ne (by omega)) _ _).trans hok.2.2)) (cwV 0 C0.1.2.2.2.2 gX4_sendSome_X4_sendNext rfl rfl rfl (by decide +kernel) (by rw [hR]; exact ⟨Nat.le_of_ble_eq_true rfl, Nat.le_of_ble_eq_true rfl⟩)) hM hMo.1.1 hMo.1.2 rfl rfl hM hS rfl rfl rfl hl.1 (Nat.le_of_ble_eq_true rfl) dX4_sendSome_83 (by rw [hR]; exact ⟨Nat.zero_le _, Nat.zero_le _⟩) (fun H locs hM hS => ?_)
    refine lv_istore (lv' := [(6, .int ((fX4_sendNext_t ((fX4_nextStream x24.1 b (cM (x24.1 (b + 1))) (eM (x24.1 (b + 1)))).2) b (cM (x24.1 (b + 1))) (eM (x24.1 (b + 1))) (lgM (x24.1 (b + 1))) ((nsM x24.1 b).1.toNatClampNeg)).1)), (3, .int (nI (i24 + 1))), (2, .int (x24.2 + (((fX4_nextStream x24.1 b (cM (x24.1 (b + 1))) (eM (x24.1 (b + 1)))).2) (b + 1) (32 + 18 * ((nsM x24.1 b).1.toNatClampNeg) + 3 * 0 + 1)))), (4, .int (nI 1)), (5, .int ((fX4_nextStream x24.1 b (cM (x24.1 (b + 1))) (eM (x24.1 (b + 1)))).1)), (0, .ref b), (1, .int bud)]) hx hb dX4_sendSome_86 hl (by decide) rfl (fun ls hl => ?_)
    refine lv_goto (tgt := 24) hx hb dX4_sendSome_88 (by decide) ?_
    exact stp5 ((fX4_sendNext_t ((fX4_nextStream x24.1 b (cM (x24.1 (b + 1))) (eM (x24.1 (b + 1)))).2) b (cM (x24.1 (b + 1))) (eM (x24.1 (b + 1))) (lgM (x24.1 (b + 1))) ((nsM x24.1 b).1.toNatClampNeg)).2, x24.2 + (((fX4_nextStream x24.1 b (cM (x24.1 (b + 1))) (eM (x24.1 (b + 1)))).2) (b + 1) (32 + 18 * ((nsM x24.1 b).1.toNatClampNeg) + 3 * 0 + 1))) rfl H locs ls hM hS (lv_sub hl [5, 6, 2, 1, 3] rfl)
  · skip
    have hE := hEnd _ hv3.1 hv3.2
    refine lv_iload hx hb dX4_sendSome_24 (lv_at hl 4 rfl) ?_
    refine mr_eqB (tgt := 91) C0 dX4_sendSome_26 (by decide) (fun c10 => absurd c10 (by decide)) (fun _ => ?_)
    refine lv_aload_n hx hb dX4_sendSome_29 rfl (lv_at hl 0 rfl) ?_
    refine mr_callV (As := []) C0 (ctX4_nextStream (I := ((lp m (fun i24 x24 => ((fX4_sendNext_t ((fX4_nextStream x24.1 b (cM (x24.1 (b + 1))) (eM (x24.1 (b + 1)))).2) b (cM (x24.1 (b + 1))) (eM (x24.1 (b + 1))) (lgM (x24.1 (b + 1))) ((nsM x24.1 b).1.toNatClampNeg)).2, x24.2 + (((fX4_nextStream x24.1 b (cM (x24.1 (b + 1))) (eM (x24.1 (b + 1)))).2) (b + 1) (32 + 18 * ((nsM x24.1 b).1.toNatClampNeg) + 3 * 0 + 1)))) ((fX4_remember I b pm), (nI 0))).1)) (J := J) (b := b) hMo (hv3.1)) (cwV 0 C0.1.2.2.2.2 gX4_sendSome_X4_nextStream rfl rfl rfl (by decide +kernel) (by rw [hR]; exact ⟨Nat.le_of_ble_eq_true rfl, Nat.le_of_ble_eq_true rfl⟩)) hM hMo.1.1 hMo.1.2 rfl rfl hM hS rfl rfl rfl hl.1 (Nat.le_of_ble_eq_true rfl) dX4_sendSome_30 (by rw [hR]; exact ⟨Nat.zero_le _, Nat.zero_le _⟩) (fun H locs hM hS => ?_)
    refine lv_istore (lv' := [(5, .int ((fX4_nextStream ((lp m (fun i24 x24 => ((fX4_sendNext_t ((fX4_nextStream x24.1 b (cM (x24.1 (b + 1))) (eM (x24.1 (b + 1)))).2) b (cM (x24.1 (b + 1))) (eM (x24.1 (b + 1))) (lgM (x24.1 (b + 1))) ((nsM x24.1 b).1.toNatClampNeg)).2, x24.2 + (((fX4_nextStream x24.1 b (cM (x24.1 (b + 1))) (eM (x24.1 (b + 1)))).2) (b + 1) (32 + 18 * ((nsM x24.1 b).1.toNatClampNeg) + 3 * 0 + 1)))) ((fX4_remember I b pm), (nI 0))).1) b (cM ((lp m (fun i24 x24 => ((fX4_sendNext_t ((fX4_nextStream x24.1 b (cM (x24.1 (b + 1))) (eM (x24.1 (b + 1)))).2) b (cM (x24.1 (b + 1))) (eM (x24.1 (b + 1))) (lgM (x24.1 (b + 1))) ((nsM x24.1 b).1.toNatClampNeg)).2, x24.2 + (((fX4_nextStream x24.1 b (cM (x24.1 (b + 1))) (eM (x24.1 (b + 1)))).2) (b + 1) (32 + 18 * ((nsM x24.1 b).1.toNatClampNeg) + 3 * 0 + 1)))) ((fX4_remember I b pm), (nI 0))).1 (b + 1))) (eM ((lp m (fun i24 x24 => ((fX4_sendNext_t ((fX4_nextStream x24.1 b (cM (x24.1 (b + 1))) (eM (x24.1 (b + 1)))).2) b (cM (x24.1 (b + 1))) (eM (x24.1 (b + 1))) (lgM (x24.1 (b + 1))) ((nsM x24.1 b).1.toNatClampNeg)).2, x24.2 + (((fX4_nextStream x24.1 b (cM (x24.1 (b + 1))) (eM (x24.1 (b + 1)))).2) (b + 1) (32 + 18 * ((nsM x24.1 b).1.toNatClampNeg) + 3 * 0 + 1)))) ((fX4_remember I b pm), (nI 0))).1 (b + 1)))).1)), (0, .ref b), (1, .int bud), (2, .int ((lp m (fun i24 x24 => ((fX4_sendNext_t ((fX4_nextStream x24.1 b (cM (x24.1 (b + 1))) (eM (x24.1 (b + 1)))).2) b (cM (x24.1 (b + 1))) (eM (x24.1 (b + 1))) (lgM (x24.1 (b + 1))) ((nsM x24.1 b).1.toNatClampNeg)).2, x24.2 + (((fX4_nextStream x24.1 b (cM (x24.1 (b + 1))) (eM (x24.1 (b + 1)))).2) (b + 1) (32 + 18 * ((nsM x24.1 b).1.toNatClampNeg) + 3 * 0 + 1)))) ((fX4_remember I b pm), (nI 0))).2)), (3, .int (nI m)), (4, .int (bI true))]) hx hb dX4_sendSome_33 hl (by decide) rfl (fun ls hl => ?_)
    refine lv_iload hx hb dX4_sendSome_35 (lv_at hl 0 rfl) ?_
    refine lv_bipush (v := (-9)) hx hb dX4_sendSome_37 (by decide) ?_
    refine lv_icmp_eq (tgt := 60) hx hb dX4_sendSome_39 (by decide) (fun c11 => ?_) (fun c11 => absurd hE c11)
    refine lv_iconst (v := nI 0) hx hb dX4_sendSome_60 (by decide) ?_
    refine lv_istore (lv' := [(4, .int (nI 0)), (5, .int ((fX4_nextStream ((lp m (fun i24 x24 => ((fX4_sendNext_t ((fX4_nextStream x24.1 b (cM (x24.1 (b + 1))) (eM (x24.1 (b + 1)))).2) b (cM (x24.1 (b + 1))) (eM (x24.1 (b + 1))) (lgM (x24.1 (b + 1))) ((nsM x24.1 b).1.toNatClampNeg)).2, x24.2 + (((fX4_nextStream x24.1 b (cM (x24.1 (b + 1))) (eM (x24.1 (b + 1)))).2) (b + 1) (32 + 18 * ((nsM x24.1 b).1.toNatClampNeg) + 3 * 0 + 1)))) ((fX4_remember I b pm), (nI 0))).1) b (cM ((lp m (fun i24 x24 => ((fX4_sendNext_t ((fX4_nextStream x24.1 b (cM (x24.1 (b + 1))) (eM (x24.1 (b + 1)))).2) b (cM (x24.1 (b + 1))) (eM (x24.1 (b + 1))) (lgM (x24.1 (b + 1))) ((nsM x24.1 b).1.toNatClampNeg)).2, x24.2 + (((fX4_nextStream x24.1 b (cM (x24.1 (b + 1))) (eM (x24.1 (b + 1)))).2) (b + 1) (32 + 18 * ((nsM x24.1 b).1.toNatClampNeg) + 3 * 0 + 1)))) ((fX4_remember I b pm), (nI 0))).1 (b + 1))) (eM ((lp m (fun i24 x24 => ((fX4_sendNext_t ((fX4_nextStream x24.1 b (cM (x24.1 (b + 1))) (eM (x24.1 (b + 1)))).2) b (cM (x24.1 (b + 1))) (eM (x24.1 (b + 1))) (lgM (x24.1 (b + 1))) ((nsM x24.1 b).1.toNatClampNeg)).2, x24.2 + (((fX4_nextStream x24.1 b (cM (x24.1 (b + 1))) (eM (x24.1 (b + 1)))).2) (b + 1) (32 + 18 * ((nsM x24.1 b).1.toNatClampNeg) + 3 * 0 + 1)))) ((fX4_remember I b pm), (nI 0))).1 (b + 1)))).1)), (0, .ref b), (1, .int bud), (2, .int ((lp m (fun i24 x24 => ((fX4_sendNext_t ((fX4_nextStream x24.1 b (cM (x24.1 (b + 1))) (eM (x24.1 (b + 1)))).2) b (cM (x24.1 (b + 1))) (eM (x24.1 (b + 1))) (lgM (x24.1 (b + 1))) ((nsM x24.1 b).1.toNatClampNeg)).2, x24.2 + (((fX4_nextStream x24.1 b (cM (x24.1 (b + 1))) (eM (x24.1 (b + 1)))).2) (b + 1) (32 + 18 * ((nsM x24.1 b).1.toNatClampNeg) + 3 * 0 + 1)))) ((fX4_remember I b pm), (nI 0))).2)), (3, .int (nI m))]) hx hb dX4_sendSome_61 hl (by decide) rfl (fun ls hl => ?_)
    refine lv_iload hx hb dX4_sendSome_63 (lv_at hl 0 rfl) ?_
    refine lv_if_eq (x := nI 0) (tgt := 88) hx hb dX4_sendSome_65 (by decide) (fun _ => ?_) (fun c12 => absurd c12 (by decide))
    refine lv_goto (tgt := 24) hx hb dX4_sendSome_88 (by decide) ?_
    refine lv_iload hx hb dX4_sendSome_24 (lv_at hl 0 rfl) ?_
    refine lv_if_eq (x := nI 0) (tgt := 91) hx hb dX4_sendSome_26 (by decide) (fun _ => ?_) (fun c13 => absurd c13 (by decide))
    refine lv_iload_n hx hb dX4_sendSome_91 rfl (lv_at hl 5 rfl) ?_
    have eF : (nI m, (fX4_nextStream ((lp m (fun i24 x24 => ((fX4_sendNext_t ((fX4_nextStream x24.1 b (cM (x24.1 (b + 1))) (eM (x24.1 (b + 1)))).2) b (cM (x24.1 (b + 1))) (eM (x24.1 (b + 1))) (lgM (x24.1 (b + 1))) ((nsM x24.1 b).1.toNatClampNeg)).2, x24.2 + (((fX4_nextStream x24.1 b (cM (x24.1 (b + 1))) (eM (x24.1 (b + 1)))).2) (b + 1) (32 + 18 * ((nsM x24.1 b).1.toNatClampNeg) + 3 * 0 + 1)))) ((fX4_remember I b pm), (nI 0))).1) b (cM ((lp m (fun i24 x24 => ((fX4_sendNext_t ((fX4_nextStream x24.1 b (cM (x24.1 (b + 1))) (eM (x24.1 (b + 1)))).2) b (cM (x24.1 (b + 1))) (eM (x24.1 (b + 1))) (lgM (x24.1 (b + 1))) ((nsM x24.1 b).1.toNatClampNeg)).2, x24.2 + (((fX4_nextStream x24.1 b (cM (x24.1 (b + 1))) (eM (x24.1 (b + 1)))).2) (b + 1) (32 + 18 * ((nsM x24.1 b).1.toNatClampNeg) + 3 * 0 + 1)))) ((fX4_remember I b pm), (nI 0))).1 (b + 1))) (eM ((lp m (fun i24 x24 => ((fX4_sendNext_t ((fX4_nextStream x24.1 b (cM (x24.1 (b + 1))) (eM (x24.1 (b + 1)))).2) b (cM (x24.1 (b + 1))) (eM (x24.1 (b + 1))) (lgM (x24.1 (b + 1))) ((nsM x24.1 b).1.toNatClampNeg)).2, x24.2 + (((fX4_nextStream x24.1 b (cM (x24.1 (b + 1))) (eM (x24.1 (b + 1)))).2) (b + 1) (32 + 18 * ((nsM x24.1 b).1.toNatClampNeg) + 3 * 0 + 1)))) ((fX4_remember I b pm), (nI 0))).1 (b + 1)))).2) = fX4_sendSome_tA I b pm m := rfl
    exact mr_iret (v := nI m) C0 hr hlk hQ hS (by rw [← eF]) (by rw [← eF]; exact hM) (Nat.le_refl _) (Nat.le_refl _) dX4_sendSome_92
def fX4_sendSome_tB (I : hm_I) (b pm m : Nat) : Int32 × hm_I :=
  (nI m, (fX4_nextStream ((lp m (fun i24 x24 => ((fX4_sendNext_t ((fX4_nextStream x24.1 b (cM (x24.1 (b + 1))) (eM (x24.1 (b + 1)))).2) b (cM (x24.1 (b + 1))) (eM (x24.1 (b + 1))) (lgM (x24.1 (b + 1))) ((nsM x24.1 b).1.toNatClampNeg)).2, x24.2 + (((fX4_nextStream x24.1 b (cM (x24.1 (b + 1))) (eM (x24.1 (b + 1)))).2) (b + 1) (32 + 18 * ((nsM x24.1 b).1.toNatClampNeg) + 3 * 0 + 1)))) ((fX4_remember I b pm), (nI 0))).1) b (cM ((lp m (fun i24 x24 => ((fX4_sendNext_t ((fX4_nextStream x24.1 b (cM (x24.1 (b + 1))) (eM (x24.1 (b + 1)))).2) b (cM (x24.1 (b + 1))) (eM (x24.1 (b + 1))) (lgM (x24.1 (b + 1))) ((nsM x24.1 b).1.toNatClampNeg)).2, x24.2 + (((fX4_nextStream x24.1 b (cM (x24.1 (b + 1))) (eM (x24.1 (b + 1)))).2) (b + 1) (32 + 18 * ((nsM x24.1 b).1.toNatClampNeg) + 3 * 0 + 1)))) ((fX4_remember I b pm), (nI 0))).1 (b + 1))) (eM ((lp m (fun i24 x24 => ((fX4_sendNext_t ((fX4_nextStream x24.1 b (cM (x24.1 (b + 1))) (eM (x24.1 (b + 1)))).2) b (cM (x24.1 (b + 1))) (eM (x24.1 (b + 1))) (lgM (x24.1 (b + 1))) ((nsM x24.1 b).1.toNatClampNeg)).2, x24.2 + (((fX4_nextStream x24.1 b (cM (x24.1 (b + 1))) (eM (x24.1 (b + 1)))).2) (b + 1) (32 + 18 * ((nsM x24.1 b).1.toNatClampNeg) + 3 * 0 + 1)))) ((fX4_remember I b pm), (nI 0))).1 (b + 1)))).2)
set_option maxHeartbeats 4000000 in
set_option maxRecDepth 100000 in
theorem ctX4_sendSome_tB {l : Launch} {D : va_G} {T : Nat → ClassId} {L : List Nat} {A : Nat → Prop} {Sh : hm_S} {I : hm_I} {J : hm_J} {b : Nat} (hMo : IsM L Sh b) {pm : Nat} (hpm : I b 2 = nI pm) (hp8 : pm ≤ 8) {bud : Int32} {m : Nat} {Inv : Nat → hm_I × Int32 → Prop} (hw0 : fX4_isIn bud (nI 0) (nI 999) = true) (hB : SomeOk (fX4_remember I b pm) b m bud Inv) (hEnd : endB b m bud Inv) :
    Ct l yX4_sendSome wsX4_sendSome { frames := 6, cells := 0, slots := 0, locals := 137 } 0 0 D T A [.ref b, .int bud] (hm D T L A Sh I J) (some (.int ((fX4_sendSome_tB I b pm m).1))) (hm D T L A Sh ((fX4_sendSome_tB I b pm m).2) J) := by
  refine Ct.ofW (cc := cX4_sendSome) (maxL := 7) (ret := (some .int)) (by decide) rfl (Nat.le_of_ble_eq_true rfl) ?_
  intro p_ e_ s_ m_ args_ below_ meth_ c_ ls R Qq hR hQ C0 hr hlk hname hM hl
  have hx := C0.1.1
  have hb := C0.1.2.1
  have hS : va_S A s_.heap s_.heap [] := va_S.rf
  have hl : lv_has ls 7 [(0, .ref b), (1, .int bud)] := hl
  have hm48 := hB.1
  refine lv_iload_n hx hb dX4_sendSome_0 rfl (lv_at hl 1 rfl) ?_
  refine lv_iconst (v := nI 0) hx hb dX4_sendSome_1 (by decide) ?_
  refine lv_sipush (v := nI 999) hx hb dX4_sendSome_2 (by decide) ?_
  refine mr_callS (As := [.int bud, .int (nI 0), .int (nI 999)]) C0 (ctX4_isIn (I := I) (J := J) (v := bud) (lo := (nI 0)) (up := (nI 999)) ) (va_cwS 3 C0.1.2.2.2.2 gX4_sendSome_X4_isIn rfl rfl rfl (by decide +kernel) (by rw [hR]; exact ⟨Nat.le_of_ble_eq_true rfl, Nat.le_of_ble_eq_true rfl⟩)) hM hS rfl rfl rfl hl.1 (Nat.le_of_ble_eq_true rfl) dX4_sendSome_5 (by rw [hR]; exact ⟨Nat.zero_le _, Nat.zero_le _⟩) (fun H locs hM hS => ?_)
  refine mr_neB (tgt := 13) C0 dX4_sendSome_8 (by decide) (fun c1 => ?_) (fun c1 => absurd c1 (by rw [hw0]; decide))
  refine lv_aload_n hx hb dX4_sendSome_13 rfl (lv_at hl 0 rfl) ?_
  refine mr_callV (As := []) C0 (ctX4_remember (I := I) (J := J) (b := b) hMo hpm (by omega)) (cwV 0 C0.1.2.2.2.2 gX4_sendSome_X4_remember rfl rfl rfl (by decide +kernel) (by rw [hR]; exact ⟨Nat.le_of_ble_eq_true rfl, Nat.le_of_ble_eq_true rfl⟩)) hM hMo.1.1 hMo.1.2 rfl rfl hM hS rfl rfl rfl hl.1 (Nat.le_of_ble_eq_true rfl) dX4_sendSome_14 (by rw [hR]; exact ⟨Nat.zero_le _, Nat.zero_le _⟩) (fun H locs hM hS => ?_)
  refine lv_iconst (v := nI 0) hx hb dX4_sendSome_17 (by decide) ?_
  refine lv_istore_n (lv' := [(2, .int (nI 0)), (0, .ref b), (1, .int bud)]) hx hb dX4_sendSome_18 rfl hl (by decide) rfl (fun ls hl => ?_)
  refine lv_iconst (v := nI 0) hx hb dX4_sendSome_19 (by decide) ?_
  refine lv_istore_n (lv' := [(3, .int (nI 0)), (2, .int (nI 0)), (0, .ref b), (1, .int bud)]) hx hb dX4_sendSome_20 rfl hl (by decide) rfl (fun ls hl => ?_)
  refine lv_iconst (v := nI 1) hx hb dX4_sendSome_21 (by decide) ?_
  refine lv_istore (lv' := [(4, .int (nI 1)), (3, .int (nI 0)), (2, .int (nI 0)), (0, .ref b), (1, .int bud)]) hx hb dX4_sendSome_22 hl (by decide) rfl (fun ls hl => ?_)
  refine lp_loop (σ := hm_I × Int32) (fun i24 x24 => ∀ (H : Heap) (locs : List Loc) (ls : Array Slot), hm D T L A Sh x24.1 J H → va_S A s_.heap H locs → lv_has ls 7 [(0, .ref b), (1, .int bud), (2, .int x24.2), (3, .int (nI i24)), (4, .int (bI true))] → W p_ l e_ R s_ m_ args_ below_ meth_ c_ H locs 0 0 Qq (F0 m_ 24 ls [])) m (fun i24 x24 => ((fX4_sendNext_t ((fX4_nextStream x24.1 b (cM (x24.1 (b + 1))) (eM (x24.1 (b + 1)))).2) b (cM (x24.1 (b + 1))) (eM (x24.1 (b + 1))) (lgM (x24.1 (b + 1))) ((nsM x24.1 b).1.toNatClampNeg)).2, x24.2 + (((fX4_nextStream x24.1 b (cM (x24.1 (b + 1))) (eM (x24.1 (b + 1)))).2) (b + 1) (32 + 18 * ((nsM x24.1 b).1.toNatClampNeg) + 3 * 0 + 1)))) ((fX4_remember I b pm), (nI 0)) (fun (i24 : Nat) (x24 : hm_I × Int32) => WfC (x24.1 (b + 1)) ∧ Inv i24 x24) ⟨hB.2.1, hB.2.2.1⟩ (fun i x hi hv => ⟨hB.2.2.2.1 i x hi hv.1 hv.2, hB.2.2.2.2.1 i x hi hv.1 hv.2⟩) (fun i24 x24 hi2 hv3 k4 H locs ls hM hS hl => ?_) (fun hv3 H locs ls hM hS hl => ?_) _ _ _ hM hS (lv_sub hl [3, 4, 2, 1, 0] rfl)
  · have stp5 : ∀ yy_ : hm_I × Int32, yy_ = (((fX4_sendNext_t ((fX4_nextStream x24.1 b (cM (x24.1 (b + 1))) (eM (x24.1 (b + 1)))).2) b (cM (x24.1 (b + 1))) (eM (x24.1 (b + 1))) (lgM (x24.1 (b + 1))) ((nsM x24.1 b).1.toNatClampNeg)).2, x24.2 + (((fX4_nextStream x24.1 b (cM (x24.1 (b + 1))) (eM (x24.1 (b + 1)))).2) (b + 1) (32 + 18 * ((nsM x24.1 b).1.toNatClampNeg) + 3 * 0 + 1)))) → ∀ (H : Heap) (locs : List Loc) (ls : Array Slot), hm D T L A Sh yy_.1 J H → va_S A s_.heap H locs → lv_has ls 7 [(0, .ref b), (1, .int bud), (2, .int yy_.2), (3, .int (nI (i24 + 1))), (4, .int (bI true))] → W p_ l e_ R s_ m_ args_ below_ meth_ c_ H locs 0 0 Qq (F0 m_ 24 ls []) := fun yy_ ey => by rw [ey]; exact k4
    have hok := hB.2.2.2.2.2.1 i24 x24 hi2 hv3.1 hv3.2
    have hok1 := hok.1
    have hfit := hB.2.2.2.2.2.2 i24 x24 hi2 hv3.1 hv3.2
    refine lv_iload hx hb dX4_sendSome_24 (lv_at hl 4 rfl) ?_
    refine mr_eqB (tgt := 91) C0 dX4_sendSome_26 (by decide) (fun c6 => absurd c6 (by decide)) (fun _ => ?_)
    refine lv_aload_n hx hb dX4_sendSome_29 rfl (lv_at hl 0 rfl) ?_
    refine mr_callV (As := []) C0 (ctX4_nextStream (I := x24.1) (J := J) (b := b) hMo (hv3.1)) (cwV 0 C0.1.2.2.2.2 gX4_sendSome_X4_nextStream rfl rfl rfl (by decide +kernel) (by rw [hR]; exact ⟨Nat.le_of_ble_eq_true rfl, Nat.le_of_ble_eq_true rfl⟩)) hM hMo.1.1 hMo.1.2 rfl rfl hM hS rfl rfl rfl hl.1 (Nat.le_of_ble_eq_true rfl) dX4_sendSome_30 (by rw [hR]; exact ⟨Nat.zero_le _, Nat.zero_le _⟩) (fun H locs hM hS => ?_)
    refine lv_istore (lv' := [(5, .int ((fX4_nextStream x24.1 b (cM (x24.1 (b + 1))) (eM (x24.1 (b + 1)))).1)), (0, .ref b), (1, .int bud), (2, .int x24.2), (3, .int (nI i24)), (4, .int (bI true))]) hx hb dX4_sendSome_33 hl (by decide) rfl (fun ls hl => ?_)
    refine lv_iload hx hb dX4_sendSome_35 (lv_at hl 0 rfl) ?_
    refine lv_bipush (v := (-9)) hx hb dX4_sendSome_37 (by decide) ?_
    refine lv_icmp_eq (tgt := 60) hx hb dX4_sendSome_39 (by decide) (fun c7 => absurd (hok.2.2.symm.trans c7) (nI_ne_m9 (by omega))) (fun c7 => ?_)
    refine lv_iload_n hx hb dX4_sendSome_42 rfl (lv_at hl 3 rfl) ?_
    refine lv_aload_n hx hb dX4_sendSome_43 rfl (lv_at hl 1 rfl) ?_
    refine lv_iload hx hb dX4_sendSome_44 (lv_at hl 0 rfl) ?_
    refine mr_top (y := nI (nsM x24.1 b).1.toNatClampNeg) hok.2.2 ?_
    refine lv_iconst (v := nI 0) hx hb dX4_sendSome_46 (by decide) ?_
    refine lv_iconst (v := nI 1) hx hb dX4_sendSome_47 (by decide) ?_
    refine mr_callV (As := [.int (nI ((nsM x24.1 b).1.toNatClampNeg)), .int (nI 0), .int (nI 1)]) C0 (ctX4_frameAt_t (I := ((fX4_nextStream x24.1 b (cM (x24.1 (b + 1))) (eM (x24.1 (b + 1)))).2)) (J := J) (b := b) (s0 := ((nsM x24.1 b).1.toNatClampNeg)) (k0 := 0) (w0 := 1) hMo (by omega)) (cwV 3 C0.1.2.2.2.2 gX4_sendSome_X4_frameAt rfl rfl rfl (by decide +kernel) (by rw [hR]; exact ⟨Nat.le_of_ble_eq_true rfl, Nat.le_of_ble_eq_true rfl⟩)) hM hMo.1.1 hMo.1.2 rfl rfl hM hS rfl rfl rfl hl.1 (Nat.le_of_ble_eq_true rfl) dX4_sendSome_48 (by rw [hR]; exact ⟨Nat.zero_le _, Nat.zero_le _⟩) (fun H locs hM hS => ?_)
    refine lv_iadd hx hb dX4_sendSome_51 ?_
    refine lv_iload_n hx hb dX4_sendSome_52 rfl (lv_at hl 2 rfl) ?_
    refine lv_icmp_gt (tgt := 60) hx hb dX4_sendSome_53 (by decide) (fun c8 => absurd c8 hfit) (fun c8 => ?_)
    refine lv_iconst (v := nI 1) hx hb dX4_sendSome_56 (by decide) ?_
    refine lv_goto (tgt := 61) hx hb dX4_sendSome_57 (by decide) ?_
    refine lv_istore (lv' := [(4, .int (nI 1)), (5, .int ((fX4_nextStream x24.1 b (cM (x24.1 (b + 1))) (eM (x24.1 (b + 1)))).1)), (0, .ref b), (1, .int bud), (2, .int x24.2), (3, .int (nI i24))]) hx hb dX4_sendSome_61 hl (by decide) rfl (fun ls hl => ?_)
    refine lv_iload hx hb dX4_sendSome_63 (lv_at hl 0 rfl) ?_
    refine lv_if_eq (x := nI 1) (tgt := 88) hx hb dX4_sendSome_65 (by decide) (fun c9 => absurd c9 (by decide)) (fun _ => ?_)
    refine lv_iload_n hx hb dX4_sendSome_68 rfl (lv_at hl 4 rfl) ?_
    refine lv_aload_n hx hb dX4_sendSome_69 rfl (lv_at hl 2 rfl) ?_
    refine lv_iload hx hb dX4_sendSome_70 (lv_at hl 1 rfl) ?_
    refine mr_top (y := nI (nsM x24.1 b).1.toNatClampNeg) hok.2.2 ?_
    refine lv_iconst (v := nI 0) hx hb dX4_sendSome_72 (by decide) ?_
    refine lv_iconst (v := nI 1) hx hb dX4_sendSome_73 (by decide) ?_
    refine mr_callV (As := [.int (nI ((nsM x24.1 b).1.toNatClampNeg)), .int (nI 0), .int (nI 1)]) C0 (ctX4_frameAt_t (I := ((fX4_nextStream x24.1 b (cM (x24.1 (b + 1))) (eM (x24.1 (b + 1)))).2)) (J := J) (b := b) (s0 := ((nsM x24.1 b).1.toNatClampNeg)) (k0 := 0) (w0 := 1) hMo (by omega)) (cwV 3 C0.1.2.2.2.2 gX4_sendSome_X4_frameAt rfl rfl rfl (by decide +kernel) (by rw [hR]; exact ⟨Nat.le_of_ble_eq_true rfl, Nat.le_of_ble_eq_true rfl⟩)) hM hMo.1.1 hMo.1.2 rfl rfl hM hS rfl rfl rfl hl.1 (Nat.le_of_ble_eq_true rfl) dX4_sendSome_74 (by rw [hR]; exact ⟨Nat.zero_le _, Nat.zero_le _⟩) (fun H locs hM hS => ?_)
    refine lv_iadd hx hb dX4_sendSome_77 ?_
    refine lv_istore_n (lv' := [(2, .int (x24.2 + (((fX4_nextStream x24.1 b (cM (x24.1 (b + 1))) (eM (x24.1 (b + 1)))).2) (b + 1) (32 + 18 * ((nsM x24.1 b).1.toNatClampNeg) + 3 * 0 + 1)))), (4, .int (nI 1)), (5, .int ((fX4_nextStream x24.1 b (cM (x24.1 (b + 1))) (eM (x24.1 (b + 1)))).1)), (0, .ref b), (1, .int bud), (3, .int (nI i24))]) hx hb dX4_sendSome_78 rfl hl (by decide) rfl (fun ls hl => ?_)
    refine lv_iinc (v := nI (i24 + 1)) (lv' := [(3, .int (nI (i24 + 1))), (2, .int (x24.2 + (((fX4_nextStream x24.1 b (cM (x24.1 (b + 1))) (eM (x24.1 (b + 1)))).2) (b + 1) (32 + 18 * ((nsM x24.1 b).1.toNatClampNeg) + 3 * 0 + 1)))), (4, .int (nI 1)), (5, .int ((fX4_nextStream x24.1 b (cM (x24.1 (b + 1))) (eM (x24.1 (b + 1)))).1)), (0, .ref b), (1, .int bud)]) hx hb dX4_sendSome_79 hl (k := 5) rfl (nI_1 _) (by decide) rfl (fun ls hl => ?_)
    refine lv_aload_n hx hb dX4_sendSome_82 rfl (lv_at hl 4 rfl) ?_
    refine mr_callV (As := []) C0 (ctX4_sendNext_t (I := ((fX4_nextStream x24.1 b (cM (x24.1 (b + 1))) (eM (x24.1 (b + 1)))).2)) (J := J) (b := b) hMo (show WfM (((fX4_nextStream x24.1 b (cM (x24.1 (b + 1))) (eM (x24.1 (b + 1)))).2) (b + 1)) (cM (x24.1 (b + 1))) (eM (x24.1 (b + 1))) (epM (x24.1 (b + 1))) (lgM (x24.1 (b + 1))) from WfM_eq (fX4_nextStream_ne (by omega)) (hv3.1)) hok.1 hok.2.1 ((nextStream_same (fX4_nextStream_ne (by omega)) _ _).trans hok.2.2)) (cwV 0 C0.1.2.2.2.2 gX4_sendSome_X4_sendNext rfl rfl rfl (by decide +kernel) (by rw [hR]; exact ⟨Nat.le_of_ble_eq_true rfl, Nat.le_of_ble_eq_true rfl⟩)) hM hMo.1.1 hMo.1.2 rfl rfl hM hS rfl rfl rfl hl.1 (Nat.le_of_ble_eq_true rfl) dX4_sendSome_83 (by rw [hR]; exact ⟨Nat.zero_le _, Nat.zero_le _⟩) (fun H locs hM hS => ?_)
    refine lv_istore (lv' := [(6, .int ((fX4_sendNext_t ((fX4_nextStream x24.1 b (cM (x24.1 (b + 1))) (eM (x24.1 (b + 1)))).2) b (cM (x24.1 (b + 1))) (eM (x24.1 (b + 1))) (lgM (x24.1 (b + 1))) ((nsM x24.1 b).1.toNatClampNeg)).1)), (3, .int (nI (i24 + 1))), (2, .int (x24.2 + (((fX4_nextStream x24.1 b (cM (x24.1 (b + 1))) (eM (x24.1 (b + 1)))).2) (b + 1) (32 + 18 * ((nsM x24.1 b).1.toNatClampNeg) + 3 * 0 + 1)))), (4, .int (nI 1)), (5, .int ((fX4_nextStream x24.1 b (cM (x24.1 (b + 1))) (eM (x24.1 (b + 1)))).1)), (0, .ref b), (1, .int bud)]) hx hb dX4_sendSome_86 hl (by decide) rfl (fun ls hl => ?_)
    refine lv_goto (tgt := 24) hx hb dX4_sendSome_88 (by decide) ?_
    exact stp5 ((fX4_sendNext_t ((fX4_nextStream x24.1 b (cM (x24.1 (b + 1))) (eM (x24.1 (b + 1)))).2) b (cM (x24.1 (b + 1))) (eM (x24.1 (b + 1))) (lgM (x24.1 (b + 1))) ((nsM x24.1 b).1.toNatClampNeg)).2, x24.2 + (((fX4_nextStream x24.1 b (cM (x24.1 (b + 1))) (eM (x24.1 (b + 1)))).2) (b + 1) (32 + 18 * ((nsM x24.1 b).1.toNatClampNeg) + 3 * 0 + 1))) rfl H locs ls hM hS (lv_sub hl [5, 6, 2, 1, 3] rfl)
  · skip
    have hE := hEnd _ hv3.1 hv3.2
    have hok := hE.1
    have hok1 := hok.1
    refine lv_iload hx hb dX4_sendSome_24 (lv_at hl 4 rfl) ?_
    refine mr_eqB (tgt := 91) C0 dX4_sendSome_26 (by decide) (fun c10 => absurd c10 (by decide)) (fun _ => ?_)
    refine lv_aload_n hx hb dX4_sendSome_29 rfl (lv_at hl 0 rfl) ?_
    refine mr_callV (As := []) C0 (ctX4_nextStream (I := ((lp m (fun i24 x24 => ((fX4_sendNext_t ((fX4_nextStream x24.1 b (cM (x24.1 (b + 1))) (eM (x24.1 (b + 1)))).2) b (cM (x24.1 (b + 1))) (eM (x24.1 (b + 1))) (lgM (x24.1 (b + 1))) ((nsM x24.1 b).1.toNatClampNeg)).2, x24.2 + (((fX4_nextStream x24.1 b (cM (x24.1 (b + 1))) (eM (x24.1 (b + 1)))).2) (b + 1) (32 + 18 * ((nsM x24.1 b).1.toNatClampNeg) + 3 * 0 + 1)))) ((fX4_remember I b pm), (nI 0))).1)) (J := J) (b := b) hMo (hv3.1)) (cwV 0 C0.1.2.2.2.2 gX4_sendSome_X4_nextStream rfl rfl rfl (by decide +kernel) (by rw [hR]; exact ⟨Nat.le_of_ble_eq_true rfl, Nat.le_of_ble_eq_true rfl⟩)) hM hMo.1.1 hMo.1.2 rfl rfl hM hS rfl rfl rfl hl.1 (Nat.le_of_ble_eq_true rfl) dX4_sendSome_30 (by rw [hR]; exact ⟨Nat.zero_le _, Nat.zero_le _⟩) (fun H locs hM hS => ?_)
    refine lv_istore (lv' := [(5, .int ((fX4_nextStream ((lp m (fun i24 x24 => ((fX4_sendNext_t ((fX4_nextStream x24.1 b (cM (x24.1 (b + 1))) (eM (x24.1 (b + 1)))).2) b (cM (x24.1 (b + 1))) (eM (x24.1 (b + 1))) (lgM (x24.1 (b + 1))) ((nsM x24.1 b).1.toNatClampNeg)).2, x24.2 + (((fX4_nextStream x24.1 b (cM (x24.1 (b + 1))) (eM (x24.1 (b + 1)))).2) (b + 1) (32 + 18 * ((nsM x24.1 b).1.toNatClampNeg) + 3 * 0 + 1)))) ((fX4_remember I b pm), (nI 0))).1) b (cM ((lp m (fun i24 x24 => ((fX4_sendNext_t ((fX4_nextStream x24.1 b (cM (x24.1 (b + 1))) (eM (x24.1 (b + 1)))).2) b (cM (x24.1 (b + 1))) (eM (x24.1 (b + 1))) (lgM (x24.1 (b + 1))) ((nsM x24.1 b).1.toNatClampNeg)).2, x24.2 + (((fX4_nextStream x24.1 b (cM (x24.1 (b + 1))) (eM (x24.1 (b + 1)))).2) (b + 1) (32 + 18 * ((nsM x24.1 b).1.toNatClampNeg) + 3 * 0 + 1)))) ((fX4_remember I b pm), (nI 0))).1 (b + 1))) (eM ((lp m (fun i24 x24 => ((fX4_sendNext_t ((fX4_nextStream x24.1 b (cM (x24.1 (b + 1))) (eM (x24.1 (b + 1)))).2) b (cM (x24.1 (b + 1))) (eM (x24.1 (b + 1))) (lgM (x24.1 (b + 1))) ((nsM x24.1 b).1.toNatClampNeg)).2, x24.2 + (((fX4_nextStream x24.1 b (cM (x24.1 (b + 1))) (eM (x24.1 (b + 1)))).2) (b + 1) (32 + 18 * ((nsM x24.1 b).1.toNatClampNeg) + 3 * 0 + 1)))) ((fX4_remember I b pm), (nI 0))).1 (b + 1)))).1)), (0, .ref b), (1, .int bud), (2, .int ((lp m (fun i24 x24 => ((fX4_sendNext_t ((fX4_nextStream x24.1 b (cM (x24.1 (b + 1))) (eM (x24.1 (b + 1)))).2) b (cM (x24.1 (b + 1))) (eM (x24.1 (b + 1))) (lgM (x24.1 (b + 1))) ((nsM x24.1 b).1.toNatClampNeg)).2, x24.2 + (((fX4_nextStream x24.1 b (cM (x24.1 (b + 1))) (eM (x24.1 (b + 1)))).2) (b + 1) (32 + 18 * ((nsM x24.1 b).1.toNatClampNeg) + 3 * 0 + 1)))) ((fX4_remember I b pm), (nI 0))).2)), (3, .int (nI m)), (4, .int (bI true))]) hx hb dX4_sendSome_33 hl (by decide) rfl (fun ls hl => ?_)
    refine lv_iload hx hb dX4_sendSome_35 (lv_at hl 0 rfl) ?_
    refine lv_bipush (v := (-9)) hx hb dX4_sendSome_37 (by decide) ?_
    refine lv_icmp_eq (tgt := 60) hx hb dX4_sendSome_39 (by decide) (fun c11 => absurd (hok.2.2.symm.trans c11) (nI_ne_m9 (by omega))) (fun c11 => ?_)
    refine lv_iload_n hx hb dX4_sendSome_42 rfl (lv_at hl 3 rfl) ?_
    refine lv_aload_n hx hb dX4_sendSome_43 rfl (lv_at hl 1 rfl) ?_
    refine lv_iload hx hb dX4_sendSome_44 (lv_at hl 0 rfl) ?_
    refine mr_top (y := nI (nsM ((lp m (fun i24 x24 => ((fX4_sendNext_t ((fX4_nextStream x24.1 b (cM (x24.1 (b + 1))) (eM (x24.1 (b + 1)))).2) b (cM (x24.1 (b + 1))) (eM (x24.1 (b + 1))) (lgM (x24.1 (b + 1))) ((nsM x24.1 b).1.toNatClampNeg)).2, x24.2 + (((fX4_nextStream x24.1 b (cM (x24.1 (b + 1))) (eM (x24.1 (b + 1)))).2) (b + 1) (32 + 18 * ((nsM x24.1 b).1.toNatClampNeg) + 3 * 0 + 1)))) ((fX4_remember I b pm), (nI 0))).1) b).1.toNatClampNeg) hok.2.2 ?_
    refine lv_iconst (v := nI 0) hx hb dX4_sendSome_46 (by decide) ?_
    refine lv_iconst (v := nI 1) hx hb dX4_sendSome_47 (by decide) ?_
    refine mr_callV (As := [.int (nI ((nsM ((lp m (fun i24 x24 => ((fX4_sendNext_t ((fX4_nextStream x24.1 b (cM (x24.1 (b + 1))) (eM (x24.1 (b + 1)))).2) b (cM (x24.1 (b + 1))) (eM (x24.1 (b + 1))) (lgM (x24.1 (b + 1))) ((nsM x24.1 b).1.toNatClampNeg)).2, x24.2 + (((fX4_nextStream x24.1 b (cM (x24.1 (b + 1))) (eM (x24.1 (b + 1)))).2) (b + 1) (32 + 18 * ((nsM x24.1 b).1.toNatClampNeg) + 3 * 0 + 1)))) ((fX4_remember I b pm), (nI 0))).1) b).1.toNatClampNeg)), .int (nI 0), .int (nI 1)]) C0 (ctX4_frameAt_t (I := ((fX4_nextStream ((lp m (fun i24 x24 => ((fX4_sendNext_t ((fX4_nextStream x24.1 b (cM (x24.1 (b + 1))) (eM (x24.1 (b + 1)))).2) b (cM (x24.1 (b + 1))) (eM (x24.1 (b + 1))) (lgM (x24.1 (b + 1))) ((nsM x24.1 b).1.toNatClampNeg)).2, x24.2 + (((fX4_nextStream x24.1 b (cM (x24.1 (b + 1))) (eM (x24.1 (b + 1)))).2) (b + 1) (32 + 18 * ((nsM x24.1 b).1.toNatClampNeg) + 3 * 0 + 1)))) ((fX4_remember I b pm), (nI 0))).1) b (cM ((lp m (fun i24 x24 => ((fX4_sendNext_t ((fX4_nextStream x24.1 b (cM (x24.1 (b + 1))) (eM (x24.1 (b + 1)))).2) b (cM (x24.1 (b + 1))) (eM (x24.1 (b + 1))) (lgM (x24.1 (b + 1))) ((nsM x24.1 b).1.toNatClampNeg)).2, x24.2 + (((fX4_nextStream x24.1 b (cM (x24.1 (b + 1))) (eM (x24.1 (b + 1)))).2) (b + 1) (32 + 18 * ((nsM x24.1 b).1.toNatClampNeg) + 3 * 0 + 1)))) ((fX4_remember I b pm), (nI 0))).1 (b + 1))) (eM ((lp m (fun i24 x24 => ((fX4_sendNext_t ((fX4_nextStream x24.1 b (cM (x24.1 (b + 1))) (eM (x24.1 (b + 1)))).2) b (cM (x24.1 (b + 1))) (eM (x24.1 (b + 1))) (lgM (x24.1 (b + 1))) ((nsM x24.1 b).1.toNatClampNeg)).2, x24.2 + (((fX4_nextStream x24.1 b (cM (x24.1 (b + 1))) (eM (x24.1 (b + 1)))).2) (b + 1) (32 + 18 * ((nsM x24.1 b).1.toNatClampNeg) + 3 * 0 + 1)))) ((fX4_remember I b pm), (nI 0))).1 (b + 1)))).2)) (J := J) (b := b) (s0 := ((nsM ((lp m (fun i24 x24 => ((fX4_sendNext_t ((fX4_nextStream x24.1 b (cM (x24.1 (b + 1))) (eM (x24.1 (b + 1)))).2) b (cM (x24.1 (b + 1))) (eM (x24.1 (b + 1))) (lgM (x24.1 (b + 1))) ((nsM x24.1 b).1.toNatClampNeg)).2, x24.2 + (((fX4_nextStream x24.1 b (cM (x24.1 (b + 1))) (eM (x24.1 (b + 1)))).2) (b + 1) (32 + 18 * ((nsM x24.1 b).1.toNatClampNeg) + 3 * 0 + 1)))) ((fX4_remember I b pm), (nI 0))).1) b).1.toNatClampNeg)) (k0 := 0) (w0 := 1) hMo (by omega)) (cwV 3 C0.1.2.2.2.2 gX4_sendSome_X4_frameAt rfl rfl rfl (by decide +kernel) (by rw [hR]; exact ⟨Nat.le_of_ble_eq_true rfl, Nat.le_of_ble_eq_true rfl⟩)) hM hMo.1.1 hMo.1.2 rfl rfl hM hS rfl rfl rfl hl.1 (Nat.le_of_ble_eq_true rfl) dX4_sendSome_48 (by rw [hR]; exact ⟨Nat.zero_le _, Nat.zero_le _⟩) (fun H locs hM hS => ?_)
    refine lv_iadd hx hb dX4_sendSome_51 ?_
    refine lv_iload_n hx hb dX4_sendSome_52 rfl (lv_at hl 2 rfl) ?_
    refine lv_icmp_gt (tgt := 60) hx hb dX4_sendSome_53 (by decide) (fun c12 => ?_) (fun c12 => absurd hE.2 c12)
    refine lv_iconst (v := nI 0) hx hb dX4_sendSome_60 (by decide) ?_
    refine lv_istore (lv' := [(4, .int (nI 0)), (5, .int ((fX4_nextStream ((lp m (fun i24 x24 => ((fX4_sendNext_t ((fX4_nextStream x24.1 b (cM (x24.1 (b + 1))) (eM (x24.1 (b + 1)))).2) b (cM (x24.1 (b + 1))) (eM (x24.1 (b + 1))) (lgM (x24.1 (b + 1))) ((nsM x24.1 b).1.toNatClampNeg)).2, x24.2 + (((fX4_nextStream x24.1 b (cM (x24.1 (b + 1))) (eM (x24.1 (b + 1)))).2) (b + 1) (32 + 18 * ((nsM x24.1 b).1.toNatClampNeg) + 3 * 0 + 1)))) ((fX4_remember I b pm), (nI 0))).1) b (cM ((lp m (fun i24 x24 => ((fX4_sendNext_t ((fX4_nextStream x24.1 b (cM (x24.1 (b + 1))) (eM (x24.1 (b + 1)))).2) b (cM (x24.1 (b + 1))) (eM (x24.1 (b + 1))) (lgM (x24.1 (b + 1))) ((nsM x24.1 b).1.toNatClampNeg)).2, x24.2 + (((fX4_nextStream x24.1 b (cM (x24.1 (b + 1))) (eM (x24.1 (b + 1)))).2) (b + 1) (32 + 18 * ((nsM x24.1 b).1.toNatClampNeg) + 3 * 0 + 1)))) ((fX4_remember I b pm), (nI 0))).1 (b + 1))) (eM ((lp m (fun i24 x24 => ((fX4_sendNext_t ((fX4_nextStream x24.1 b (cM (x24.1 (b + 1))) (eM (x24.1 (b + 1)))).2) b (cM (x24.1 (b + 1))) (eM (x24.1 (b + 1))) (lgM (x24.1 (b + 1))) ((nsM x24.1 b).1.toNatClampNeg)).2, x24.2 + (((fX4_nextStream x24.1 b (cM (x24.1 (b + 1))) (eM (x24.1 (b + 1)))).2) (b + 1) (32 + 18 * ((nsM x24.1 b).1.toNatClampNeg) + 3 * 0 + 1)))) ((fX4_remember I b pm), (nI 0))).1 (b + 1)))).1)), (0, .ref b), (1, .int bud), (2, .int ((lp m (fun i24 x24 => ((fX4_sendNext_t ((fX4_nextStream x24.1 b (cM (x24.1 (b + 1))) (eM (x24.1 (b + 1)))).2) b (cM (x24.1 (b + 1))) (eM (x24.1 (b + 1))) (lgM (x24.1 (b + 1))) ((nsM x24.1 b).1.toNatClampNeg)).2, x24.2 + (((fX4_nextStream x24.1 b (cM (x24.1 (b + 1))) (eM (x24.1 (b + 1)))).2) (b + 1) (32 + 18 * ((nsM x24.1 b).1.toNatClampNeg) + 3 * 0 + 1)))) ((fX4_remember I b pm), (nI 0))).2)), (3, .int (nI m))]) hx hb dX4_sendSome_61 hl (by decide) rfl (fun ls hl => ?_)
    refine lv_iload hx hb dX4_sendSome_63 (lv_at hl 0 rfl) ?_
    refine lv_if_eq (x := nI 0) (tgt := 88) hx hb dX4_sendSome_65 (by decide) (fun _ => ?_) (fun c13 => absurd c13 (by decide))
    refine lv_goto (tgt := 24) hx hb dX4_sendSome_88 (by decide) ?_
    refine lv_iload hx hb dX4_sendSome_24 (lv_at hl 0 rfl) ?_
    refine lv_if_eq (x := nI 0) (tgt := 91) hx hb dX4_sendSome_26 (by decide) (fun _ => ?_) (fun c14 => absurd c14 (by decide))
    refine lv_iload_n hx hb dX4_sendSome_91 rfl (lv_at hl 5 rfl) ?_
    have eF : (nI m, (fX4_nextStream ((lp m (fun i24 x24 => ((fX4_sendNext_t ((fX4_nextStream x24.1 b (cM (x24.1 (b + 1))) (eM (x24.1 (b + 1)))).2) b (cM (x24.1 (b + 1))) (eM (x24.1 (b + 1))) (lgM (x24.1 (b + 1))) ((nsM x24.1 b).1.toNatClampNeg)).2, x24.2 + (((fX4_nextStream x24.1 b (cM (x24.1 (b + 1))) (eM (x24.1 (b + 1)))).2) (b + 1) (32 + 18 * ((nsM x24.1 b).1.toNatClampNeg) + 3 * 0 + 1)))) ((fX4_remember I b pm), (nI 0))).1) b (cM ((lp m (fun i24 x24 => ((fX4_sendNext_t ((fX4_nextStream x24.1 b (cM (x24.1 (b + 1))) (eM (x24.1 (b + 1)))).2) b (cM (x24.1 (b + 1))) (eM (x24.1 (b + 1))) (lgM (x24.1 (b + 1))) ((nsM x24.1 b).1.toNatClampNeg)).2, x24.2 + (((fX4_nextStream x24.1 b (cM (x24.1 (b + 1))) (eM (x24.1 (b + 1)))).2) (b + 1) (32 + 18 * ((nsM x24.1 b).1.toNatClampNeg) + 3 * 0 + 1)))) ((fX4_remember I b pm), (nI 0))).1 (b + 1))) (eM ((lp m (fun i24 x24 => ((fX4_sendNext_t ((fX4_nextStream x24.1 b (cM (x24.1 (b + 1))) (eM (x24.1 (b + 1)))).2) b (cM (x24.1 (b + 1))) (eM (x24.1 (b + 1))) (lgM (x24.1 (b + 1))) ((nsM x24.1 b).1.toNatClampNeg)).2, x24.2 + (((fX4_nextStream x24.1 b (cM (x24.1 (b + 1))) (eM (x24.1 (b + 1)))).2) (b + 1) (32 + 18 * ((nsM x24.1 b).1.toNatClampNeg) + 3 * 0 + 1)))) ((fX4_remember I b pm), (nI 0))).1 (b + 1)))).2) = fX4_sendSome_tB I b pm m := rfl
    exact mr_iret (v := nI m) C0 hr hlk hQ hS (by rw [← eF]) (by rw [← eF]; exact hM) (Nat.le_refl _) (Nat.le_refl _) dX4_sendSome_92
set_option maxHeartbeats 4000000 in
set_option maxRecDepth 100000 in
theorem ctX4_sendSome_b {l : Launch} {D : va_G} {T : Nat → ClassId} {L : List Nat} {A : Nat → Prop} {Sh : hm_S} {I : hm_I} {J : hm_J} {b : Nat} (hMo : IsM L Sh b) {bud : Int32} (hb0 : fX4_isIn bud (nI 0) (nI 999) = false) :
    Ct l yX4_sendSome wsX4_sendSome { frames := 1, cells := 0, slots := 0, locals := 22 } 0 0 D T A [.ref b, .int bud] (hm D T L A Sh I J) (some (.int (-1))) (hm D T L A Sh I J) := by
  refine Ct.ofW (cc := cX4_sendSome) (maxL := 7) (ret := (some .int)) (by decide) rfl (Nat.le_of_ble_eq_true rfl) ?_
  intro p_ e_ s_ m_ args_ below_ meth_ c_ ls R Qq hR hQ C0 hr hlk hname hM hl
  have hx := C0.1.1
  have hb := C0.1.2.1
  have hS : va_S A s_.heap s_.heap [] := va_S.rf
  have hl : lv_has ls 7 [(0, .ref b), (1, .int bud)] := hl
  refine lv_iload_n hx hb dX4_sendSome_0 rfl (lv_at hl 1 rfl) ?_
  refine lv_iconst (v := nI 0) hx hb dX4_sendSome_1 (by decide) ?_
  refine lv_sipush (v := nI 999) hx hb dX4_sendSome_2 (by decide) ?_
  refine mr_callS (As := [.int bud, .int (nI 0), .int (nI 999)]) C0 (ctX4_isIn (I := I) (J := J) (v := bud) (lo := (nI 0)) (up := (nI 999)) ) (va_cwS 3 C0.1.2.2.2.2 gX4_sendSome_X4_isIn rfl rfl rfl (by decide +kernel) (by rw [hR]; exact ⟨Nat.le_of_ble_eq_true rfl, Nat.le_of_ble_eq_true rfl⟩)) hM hS rfl rfl rfl hl.1 (Nat.le_of_ble_eq_true rfl) dX4_sendSome_5 (by rw [hR]; exact ⟨Nat.zero_le _, Nat.zero_le _⟩) (fun H locs hM hS => ?_)
  refine mr_neB (tgt := 13) C0 dX4_sendSome_8 (by decide) (fun c1 => absurd c1 (by rw [hb0]; decide)) (fun c1 => ?_)
  refine lv_iconst (v := (-1)) hx hb dX4_sendSome_11 (by decide) ?_
  skip
  exact mr_iret (v := (-1)) C0 hr hlk hQ hS rfl hM (Nat.le_refl _) (Nat.le_refl _) dX4_sendSome_12
set_option maxHeartbeats 4000000 in
set_option maxRecDepth 100000 in
theorem ctX4_send_0 {l : Launch} {D : va_G} {T : Nat → ClassId} {L : List Nat} {A : Nat → Prop} {Sh : hm_S} {I : hm_I} {J : hm_J} {b : Nat} (hMo : IsM L Sh b) (hb0 : fX4_waiting I b = 0) :
    Ct l yX4_send wsX4_send { frames := 1, cells := 0, slots := 0, locals := 22 } 0 0 D T A [.ref b] (hm D T L A Sh I J) (some (.int (-2))) (hm D T L A Sh I J) := by
  refine Ct.ofW (cc := cX4_send) (maxL := 1) (ret := (some .int)) (by decide) rfl (Nat.le_of_ble_eq_true rfl) ?_
  intro p_ e_ s_ m_ args_ below_ meth_ c_ ls R Qq hR hQ C0 hr hlk hname hM hl
  have hx := C0.1.1
  have hb := C0.1.2.1
  have hS : va_S A s_.heap s_.heap [] := va_S.rf
  have hl : lv_has ls 1 [(0, .ref b)] := hl
  refine lv_aload_n hx hb dX4_send_0 rfl (lv_at hl 0 rfl) ?_
  refine mr_callV (As := []) C0 (ctX4_waiting (I := I) (J := J) (b := b) hMo) (cwV 0 C0.1.2.2.2.2 gX4_send_X4_waiting rfl rfl rfl (by decide +kernel) (by rw [hR]; exact ⟨Nat.le_of_ble_eq_true rfl, Nat.le_of_ble_eq_true rfl⟩)) hM hMo.1.1 hMo.1.2 rfl rfl hM hS rfl rfl rfl hl.1 (Nat.le_of_ble_eq_true rfl) dX4_send_1 (by rw [hR]; exact ⟨Nat.zero_le _, Nat.zero_le _⟩) (fun H locs hM hS => ?_)
  refine lv_if_ne (tgt := 10) hx hb dX4_send_4 (by decide) (fun c1 => absurd hb0 c1) (fun c1 => ?_)
  refine lv_bipush (v := (-2)) hx hb dX4_send_7 (by decide) ?_
  skip
  exact mr_iret (v := (-2)) C0 hr hlk hQ hS rfl hM (Nat.le_refl _) (Nat.le_refl _) dX4_send_9
def fX4_send_t (I : hm_I) (b pm : Nat) (c : Nat → Nat) (e : Nat → Nat → Nat) (lg s0 : Nat) : Int32 × hm_I :=
  ((fX4_sendNext_t (fX4_remember I b pm) b c e lg s0).1, (fX4_sendNext_t (fX4_remember I b pm) b c e lg s0).2)
set_option maxHeartbeats 4000000 in
set_option maxRecDepth 100000 in
theorem ctX4_send_t {l : Launch} {D : va_G} {T : Nat → ClassId} {L : List Nat} {A : Nat → Prop} {Sh : hm_S} {I : hm_I} {J : hm_J} {b : Nat} (hMo : IsM L Sh b) {c : Nat → Nat} {e : Nat → Nat → Nat} {ep lg : Nat} (hWm : WfM (I (b + 1)) c e ep lg) {pm : Nat} (hpm : I b 2 = nI pm) (hp8 : pm ≤ 8) {s0 : Nat} (hs0 : s0 < 8) (hc0 : 0 < c s0) (hb0 : ¬ fX4_waiting I b = 0) (hns : (fX4_nextStream (fX4_remember I b pm) b c e).1 = nI s0) :
    Ct l yX4_send wsX4_send { frames := 6, cells := 0, slots := 0, locals := 137 } 0 0 D T A [.ref b] (hm D T L A Sh I J) (some (.int ((fX4_send_t I b pm c e lg s0).1))) (hm D T L A Sh ((fX4_send_t I b pm c e lg s0).2) J) := by
  refine Ct.ofW (cc := cX4_send) (maxL := 1) (ret := (some .int)) (by decide) rfl (Nat.le_of_ble_eq_true rfl) ?_
  intro p_ e_ s_ m_ args_ below_ meth_ c_ ls R Qq hR hQ C0 hr hlk hname hM hl
  have hx := C0.1.1
  have hb := C0.1.2.1
  have hS : va_S A s_.heap s_.heap [] := va_S.rf
  have hl : lv_has ls 1 [(0, .ref b)] := hl
  refine lv_aload_n hx hb dX4_send_0 rfl (lv_at hl 0 rfl) ?_
  refine mr_callV (As := []) C0 (ctX4_waiting (I := I) (J := J) (b := b) hMo) (cwV 0 C0.1.2.2.2.2 gX4_send_X4_waiting rfl rfl rfl (by decide +kernel) (by rw [hR]; exact ⟨Nat.le_of_ble_eq_true rfl, Nat.le_of_ble_eq_true rfl⟩)) hM hMo.1.1 hMo.1.2 rfl rfl hM hS rfl rfl rfl hl.1 (Nat.le_of_ble_eq_true rfl) dX4_send_1 (by rw [hR]; exact ⟨Nat.zero_le _, Nat.zero_le _⟩) (fun H locs hM hS => ?_)
  refine lv_if_ne (tgt := 10) hx hb dX4_send_4 (by decide) (fun c1 => ?_) (fun c1 => absurd c1 hb0)
  refine lv_aload_n hx hb dX4_send_10 rfl (lv_at hl 0 rfl) ?_
  refine mr_callV (As := []) C0 (ctX4_remember (I := I) (J := J) (b := b) hMo hpm (by omega)) (cwV 0 C0.1.2.2.2.2 gX4_send_X4_remember rfl rfl rfl (by decide +kernel) (by rw [hR]; exact ⟨Nat.le_of_ble_eq_true rfl, Nat.le_of_ble_eq_true rfl⟩)) hM hMo.1.1 hMo.1.2 rfl rfl hM hS rfl rfl rfl hl.1 (Nat.le_of_ble_eq_true rfl) dX4_send_11 (by rw [hR]; exact ⟨Nat.zero_le _, Nat.zero_le _⟩) (fun H locs hM hS => ?_)
  refine lv_aload_n hx hb dX4_send_14 rfl (lv_at hl 0 rfl) ?_
  refine mr_callV (As := []) C0 (ctX4_sendNext_t (I := (fX4_remember I b pm)) (J := J) (b := b) hMo (show WfM ((fX4_remember I b pm) (b + 1)) c e ep lg from WfM_eq (fX4_remember_ne (by omega) (by omega)) hWm) hs0 hc0 hns) (cwV 0 C0.1.2.2.2.2 gX4_send_X4_sendNext rfl rfl rfl (by decide +kernel) (by rw [hR]; exact ⟨Nat.le_of_ble_eq_true rfl, Nat.le_of_ble_eq_true rfl⟩)) hM hMo.1.1 hMo.1.2 rfl rfl hM hS rfl rfl rfl hl.1 (Nat.le_of_ble_eq_true rfl) dX4_send_15 (by rw [hR]; exact ⟨Nat.zero_le _, Nat.zero_le _⟩) (fun H locs hM hS => ?_)
  have eF : ((fX4_sendNext_t (fX4_remember I b pm) b c e lg s0).1, (fX4_sendNext_t (fX4_remember I b pm) b c e lg s0).2) = fX4_send_t I b pm c e lg s0 := rfl
  exact mr_iret (v := (fX4_sendNext_t (fX4_remember I b pm) b c e lg s0).1) C0 hr hlk hQ hS (by rw [← eF]) (by rw [← eF]; exact hM) (Nat.le_refl _) (Nat.le_refl _) dX4_send_18
def fX4_undo (I : hm_I) (b pm : Nat) : Int32 × hm_I :=
  if pm = 0 then ((-2), I) else (nI (pm - 1), (lp 428 (fun i22 x22 => hm_put x22 (b + 1) i22 (x22 (b + 2) (428 * (pm - 1) + i22))) (hm_put I b 2 (nI (pm - 1)))))
set_option maxHeartbeats 4000000 in
set_option maxRecDepth 100000 in
theorem ctX4_undo {l : Launch} {D : va_G} {T : Nat → ClassId} {L : List Nat} {A : Nat → Prop} {Sh : hm_S} {I : hm_I} {J : hm_J} {b : Nat} (hMo : IsM L Sh b) {pm : Nat} (hpm : I b 2 = nI pm) (hp8 : pm ≤ 8) :
    Ct l yX4_undo wsX4_undo { frames := 0, cells := 0, slots := 0, locals := 0 } 0 0 D T A [.ref b] (hm D T L A Sh I J) (some (.int ((fX4_undo I b pm).1))) (hm D T L A Sh ((fX4_undo I b pm).2) J) := by
  refine Ct.ofW (cc := cX4_undo) (maxL := 2) (ret := (some .int)) (by decide) rfl (Nat.le_of_ble_eq_true rfl) ?_
  intro p_ e_ s_ m_ args_ below_ meth_ c_ ls R Qq hR hQ C0 hr hlk hname hM hl
  have hx := C0.1.1
  have hb := C0.1.2.1
  have hS : va_S A s_.heap s_.heap [] := va_S.rf
  have hl : lv_has ls 2 [(0, .ref b)] := hl
  refine lv_aload_n hx hb dX4_undo_0 rfl (lv_at hl 0 rfl) ?_
  refine mr_geti (v := nI pm) (TT := TX4) (N := 10) C0 uX4_undo_X4 hM hMo.1.1 hMo.1.2 rfl 2 (by decide) rfl hpm kX4_undo_f39 rfl dX4_undo_1 ?_
  refine mr_ne0N (x := pm) (tgt := 10) C0 dX4_undo_4 (by decide) (by omega) (fun c1 => ?_) (fun c1 => ?_)
  · skip
    refine lv_aload_n hx hb dX4_undo_10 rfl (lv_at hl 0 rfl) ?_
    refine lv_dup hx hb dX4_undo_11 rfl ?_
    refine mr_geti (v := nI pm) (TT := TX4) (N := 10) C0 uX4_undo_X4 hM hMo.1.1 hMo.1.2 rfl 2 (by decide) rfl hpm kX4_undo_f39 rfl dX4_undo_12 ?_
    refine lv_iconst (v := nI 1) hx hb dX4_undo_15 (by decide) ?_
    refine mr_isubN (z := (pm - 1)) C0 (by omega) dX4_undo_16 ?_
    refine mr_puti (TT := TX4) (N := 10) C0 uX4_undo_X4 tyX4 tyX4_ok nmX4 hM hS hMo.1.1 hMo.1.2 rfl 2 (by decide) rfl kX4_undo_f39 rfl rfl (by decide +kernel) dX4_undo_17 (fun H locs hM hS => ?_)
    refine lv_iconst (v := nI 0) hx hb dX4_undo_20 (by decide) ?_
    refine lv_istore_n (lv' := [(1, .int (nI 0)), (0, .ref b)]) hx hb dX4_undo_21 rfl hl (by decide) rfl (fun ls hl => ?_)
    refine lp_loop (σ := hm_I) (fun i22 x22 => ∀ (H : Heap) (locs : List Loc) (ls : Array Slot), hm D T L A Sh x22 J H → va_S A s_.heap H locs → lv_has ls 2 [(0, .ref b), (1, .int (nI i22))] → W p_ l e_ R s_ m_ args_ below_ meth_ c_ H locs 0 0 Qq (F0 m_ 22 ls [])) 428 (fun i22 x22 => hm_put x22 (b + 1) i22 (x22 (b + 2) (428 * (pm - 1) + i22))) (hm_put I b 2 (nI (pm - 1))) (fun (i22 : Nat) (x22 : hm_I) => x22 b 2 = nI (pm - 1)) (hm_put_at _ _ _ _) (fun i x hi hv => (hm_put_get (by omega)).trans hv) (fun i22 x22 hi2 hv3 k4 H locs ls hM hS hl => ?_) (fun hv3 H locs ls hM hS hl => ?_) _ _ _ hM hS (lv_sub hl [1, 0] rfl)
    · have stp5 : ∀ yy_ : hm_I, yy_ = (hm_put x22 (b + 1) i22 (x22 (b + 2) (428 * (pm - 1) + i22))) → ∀ (H : Heap) (locs : List Loc) (ls : Array Slot), hm D T L A Sh yy_ J H → va_S A s_.heap H locs → lv_has ls 2 [(0, .ref b), (1, .int (nI (i22 + 1)))] → W p_ l e_ R s_ m_ args_ below_ meth_ c_ H locs 0 0 Qq (F0 m_ 22 ls []) := fun yy_ ey => by rw [ey]; exact k4
      refine lv_iload_n hx hb dX4_undo_22 rfl (lv_at hl 1 rfl) ?_
      refine lv_sipush (v := nI 428) hx hb dX4_undo_23 (by decide) ?_
      refine mr_geN (x := i22) (y := 428) (tgt := 56) C0 dX4_undo_26 (by decide) (by omega) (by omega) (fun c6 => absurd c6 (by omega)) (fun c6 => ?_)
      refine lv_aload_n hx hb dX4_undo_29 rfl (lv_at hl 0 rfl) ?_
      refine mr_getr (r := b + 1) (TT := TX4) (N := 10) C0 uX4_undo_X4 hM hMo.1.1 hMo.1.2 rfl 0 (by decide) rfl kX4_undo_f7 rfl dX4_undo_30 ?_
      refine lv_iload_n hx hb dX4_undo_33 rfl (lv_at hl 1 rfl) ?_
      refine lv_aload_n hx hb dX4_undo_34 rfl (lv_at hl 0 rfl) ?_
      refine mr_getr (r := b + 2) (TT := TX4) (N := 10) C0 uX4_undo_X4 hM hMo.1.1 hMo.1.2 rfl 1 (by decide) rfl kX4_undo_f13 rfl dX4_undo_35 ?_
      refine lv_sipush (v := nI 428) hx hb dX4_undo_38 (by decide) ?_
      refine lv_aload_n hx hb dX4_undo_41 rfl (lv_at hl 0 rfl) ?_
      refine mr_geti (v := nI (pm - 1)) (TT := TX4) (N := 10) C0 uX4_undo_X4 hM hMo.1.1 hMo.1.2 rfl 2 (by decide) rfl hv3 kX4_undo_f39 rfl dX4_undo_42 ?_
      refine mr_imulN (z := 428 * (pm - 1)) C0 rfl dX4_undo_45 ?_
      refine lv_iload_n hx hb dX4_undo_46 rfl (lv_at hl 1 rfl) ?_
      refine mr_iaddN (z := 428 * (pm - 1) + i22) C0 rfl dX4_undo_47 ?_
      refine mr_ialdN (v := x22 (b + 2) (428 * (pm - 1) + i22)) C0 hM hMo.2.2.1.1 hMo.2.2.1.2 (by decide) (by omega) rfl dX4_undo_48 ?_
      refine mr_iastN C0 hM hS hMo.2.1.1 hMo.2.1.2 (by decide) (by omega) dX4_undo_49 (fun H locs hM hS => ?_)
      refine lv_iinc (v := nI (i22 + 1)) (lv' := [(1, .int (nI (i22 + 1))), (0, .ref b)]) hx hb dX4_undo_50 hl (k := 1) rfl (nI_1 _) (by decide) rfl (fun ls hl => ?_)
      refine lv_goto (tgt := 22) hx hb dX4_undo_53 (by decide) ?_
      exact stp5 (hm_put x22 (b + 1) i22 (x22 (b + 2) (428 * (pm - 1) + i22))) rfl H locs ls hM hS (lv_sub hl [1, 0] rfl)
    · skip
      refine lv_iload_n hx hb dX4_undo_22 rfl (lv_at hl 1 rfl) ?_
      refine lv_sipush (v := nI 428) hx hb dX4_undo_23 (by decide) ?_
      refine mr_geN (x := 428) (y := 428) (tgt := 56) C0 dX4_undo_26 (by decide) (by decide) (by decide) (fun _ => ?_) (fun c7 => absurd c7 (by decide))
      refine lv_aload_n hx hb dX4_undo_56 rfl (lv_at hl 0 rfl) ?_
      refine mr_geti (v := nI (pm - 1)) (TT := TX4) (N := 10) C0 uX4_undo_X4 hM hMo.1.1 hMo.1.2 rfl 2 (by decide) rfl hv3 kX4_undo_f39 rfl dX4_undo_57 ?_
      have eF : (nI (pm - 1), (lp 428 (fun i22 x22 => hm_put x22 (b + 1) i22 (x22 (b + 2) (428 * (pm - 1) + i22))) (hm_put I b 2 (nI (pm - 1))))) = fX4_undo I b pm := by unfold fX4_undo; rw [if_neg (Nat.ne_of_gt c1)]
      exact mr_iret (v := nI (pm - 1)) C0 hr hlk hQ hS (by rw [← eF]) (by rw [← eF]; exact hM) (Nat.le_refl _) (Nat.le_refl _) dX4_undo_60
  · skip
    refine lv_bipush (v := (-2)) hx hb dX4_undo_7 (by decide) ?_
    have eF : ((-2), I) = fX4_undo I b pm := by unfold fX4_undo; rw [if_pos c1]
    exact mr_iret (v := (-2)) C0 hr hlk hQ hS (by rw [← eF]) (by rw [← eF]; exact hM) (Nat.le_refl _) (Nat.le_refl _) dX4_undo_9
set_option maxHeartbeats 4000000 in
set_option maxRecDepth 100000 in
theorem ctX4_told_0 {l : Launch} {D : va_G} {T : Nat → ClassId} {L : List Nat} {A : Nat → Prop} {Sh : hm_S} {I : hm_I} {J : hm_J} {b : Nat} (hMo : IsM L Sh b) {c : Nat → Nat} {e : Nat → Nat → Nat} {ep lg : Nat} (hWm : WfM (I (b + 1)) c e ep lg) {pm : Nat} (hpm : I b 2 = nI pm) (hp8 : pm ≤ 8) :
    Ct l yX4_told wsX4_told { frames := 1, cells := 0, slots := 0, locals := 22 } 0 0 D T A [.ref b, .int (nI 0)] (hm D T L A Sh I J) (some (.int (fX4_opened I b))) (hm D T L A Sh I J) := by
  refine Ct.ofW (cc := cX4_told) (maxL := 2) (ret := (some .int)) (by decide) rfl (Nat.le_of_ble_eq_true rfl) ?_
  intro p_ e_ s_ m_ args_ below_ meth_ c_ ls R Qq hR hQ C0 hr hlk hname hM hl
  have hx := C0.1.1
  have hb := C0.1.2.1
  have hS : va_S A s_.heap s_.heap [] := va_S.rf
  have hl : lv_has ls 2 [(0, .ref b), (1, .int (nI 0))] := hl
  refine lv_iload_n hx hb dX4_told_0 rfl (lv_at hl 1 rfl) ?_
  refine lv_tableIn (off := 63) (tgt := 64) hx hb dX4_told_1 (by decide) (by decide) (by decide) (by decide) ?_
  refine lv_aload_n hx hb dX4_told_64 rfl (lv_at hl 0 rfl) ?_
  refine mr_callV (As := []) C0 (ctX4_opened (I := I) (J := J) (b := b) hMo) (cwV 0 C0.1.2.2.2.2 gX4_told_X4_opened rfl rfl rfl (by decide +kernel) (by rw [hR]; exact ⟨Nat.le_of_ble_eq_true rfl, Nat.le_of_ble_eq_true rfl⟩)) hM hMo.1.1 hMo.1.2 rfl rfl hM hS rfl rfl rfl hl.1 (Nat.le_of_ble_eq_true rfl) dX4_told_65 (by rw [hR]; exact ⟨Nat.zero_le _, Nat.zero_le _⟩) (fun H locs hM hS => ?_)
  skip
  exact mr_iret (v := fX4_opened I b) C0 hr hlk hQ hS rfl hM (Nat.le_refl _) (Nat.le_refl _) dX4_told_68
set_option maxHeartbeats 4000000 in
set_option maxRecDepth 100000 in
theorem ctX4_told_1 {l : Launch} {D : va_G} {T : Nat → ClassId} {L : List Nat} {A : Nat → Prop} {Sh : hm_S} {I : hm_I} {J : hm_J} {b : Nat} (hMo : IsM L Sh b) {c : Nat → Nat} {e : Nat → Nat → Nat} {ep lg : Nat} (hWm : WfM (I (b + 1)) c e ep lg) {pm : Nat} (hpm : I b 2 = nI pm) (hp8 : pm ≤ 8) :
    Ct l yX4_told wsX4_told { frames := 1, cells := 0, slots := 0, locals := 22 } 0 0 D T A [.ref b, .int (nI 1)] (hm D T L A Sh I J) (some (.int (fX4_waiting I b))) (hm D T L A Sh I J) := by
  refine Ct.ofW (cc := cX4_told) (maxL := 2) (ret := (some .int)) (by decide) rfl (Nat.le_of_ble_eq_true rfl) ?_
  intro p_ e_ s_ m_ args_ below_ meth_ c_ ls R Qq hR hQ C0 hr hlk hname hM hl
  have hx := C0.1.1
  have hb := C0.1.2.1
  have hS : va_S A s_.heap s_.heap [] := va_S.rf
  have hl : lv_has ls 2 [(0, .ref b), (1, .int (nI 1))] := hl
  refine lv_iload_n hx hb dX4_told_0 rfl (lv_at hl 1 rfl) ?_
  refine lv_tableIn (off := 68) (tgt := 69) hx hb dX4_told_1 (by decide) (by decide) (by decide) (by decide) ?_
  refine lv_aload_n hx hb dX4_told_69 rfl (lv_at hl 0 rfl) ?_
  refine mr_callV (As := []) C0 (ctX4_waiting (I := I) (J := J) (b := b) hMo) (cwV 0 C0.1.2.2.2.2 gX4_told_X4_waiting rfl rfl rfl (by decide +kernel) (by rw [hR]; exact ⟨Nat.le_of_ble_eq_true rfl, Nat.le_of_ble_eq_true rfl⟩)) hM hMo.1.1 hMo.1.2 rfl rfl hM hS rfl rfl rfl hl.1 (Nat.le_of_ble_eq_true rfl) dX4_told_70 (by rw [hR]; exact ⟨Nat.zero_le _, Nat.zero_le _⟩) (fun H locs hM hS => ?_)
  skip
  exact mr_iret (v := fX4_waiting I b) C0 hr hlk hQ hS rfl hM (Nat.le_refl _) (Nat.le_refl _) dX4_told_73
set_option maxHeartbeats 4000000 in
set_option maxRecDepth 100000 in
theorem ctX4_told_2 {l : Launch} {D : va_G} {T : Nat → ClassId} {L : List Nat} {A : Nat → Prop} {Sh : hm_S} {I : hm_I} {J : hm_J} {b : Nat} (hMo : IsM L Sh b) {c : Nat → Nat} {e : Nat → Nat → Nat} {ep lg : Nat} (hWm : WfM (I (b + 1)) c e ep lg) {pm : Nat} (hpm : I b 2 = nI pm) (hp8 : pm ≤ 8) :
    Ct l yX4_told wsX4_told { frames := 0, cells := 0, slots := 0, locals := 0 } 0 0 D T A [.ref b, .int (nI 2)] (hm D T L A Sh I J) (some (.int (I (b + 1) 265))) (hm D T L A Sh I J) := by
  refine Ct.ofW (cc := cX4_told) (maxL := 2) (ret := (some .int)) (by decide) rfl (Nat.le_of_ble_eq_true rfl) ?_
  intro p_ e_ s_ m_ args_ below_ meth_ c_ ls R Qq hR hQ C0 hr hlk hname hM hl
  have hx := C0.1.1
  have hb := C0.1.2.1
  have hS : va_S A s_.heap s_.heap [] := va_S.rf
  have hl : lv_has ls 2 [(0, .ref b), (1, .int (nI 2))] := hl
  refine lv_iload_n hx hb dX4_told_0 rfl (lv_at hl 1 rfl) ?_
  refine lv_tableIn (off := 73) (tgt := 74) hx hb dX4_told_1 (by decide) (by decide) (by decide) (by decide) ?_
  refine lv_aload_n hx hb dX4_told_74 rfl (lv_at hl 0 rfl) ?_
  refine mr_getr (r := b + 1) (TT := TX4) (N := 10) C0 uX4_told_X4 hM hMo.1.1 hMo.1.2 rfl 0 (by decide) rfl kX4_told_f7 rfl dX4_told_75 ?_
  refine lv_sipush (v := nI 265) hx hb dX4_told_78 (by decide) ?_
  refine mr_ialdN (v := I (b + 1) 265) C0 hM hMo.2.1.1 hMo.2.1.2 (by decide) (by decide) rfl dX4_told_81 ?_
  skip
  exact mr_iret (v := I (b + 1) 265) C0 hr hlk hQ hS rfl hM (Nat.le_refl _) (Nat.le_refl _) dX4_told_82
set_option maxHeartbeats 4000000 in
set_option maxRecDepth 100000 in
theorem ctX4_told_3 {l : Launch} {D : va_G} {T : Nat → ClassId} {L : List Nat} {A : Nat → Prop} {Sh : hm_S} {I : hm_I} {J : hm_J} {b : Nat} (hMo : IsM L Sh b) {c : Nat → Nat} {e : Nat → Nat → Nat} {ep lg : Nat} (hWm : WfM (I (b + 1)) c e ep lg) {pm : Nat} (hpm : I b 2 = nI pm) (hp8 : pm ≤ 8) :
    Ct l yX4_told wsX4_told { frames := 0, cells := 0, slots := 0, locals := 0 } 0 0 D T A [.ref b, .int (nI 3)] (hm D T L A Sh I J) (some (.int (I (b + 1) 266))) (hm D T L A Sh I J) := by
  refine Ct.ofW (cc := cX4_told) (maxL := 2) (ret := (some .int)) (by decide) rfl (Nat.le_of_ble_eq_true rfl) ?_
  intro p_ e_ s_ m_ args_ below_ meth_ c_ ls R Qq hR hQ C0 hr hlk hname hM hl
  have hx := C0.1.1
  have hb := C0.1.2.1
  have hS : va_S A s_.heap s_.heap [] := va_S.rf
  have hl : lv_has ls 2 [(0, .ref b), (1, .int (nI 3))] := hl
  refine lv_iload_n hx hb dX4_told_0 rfl (lv_at hl 1 rfl) ?_
  refine lv_tableIn (off := 82) (tgt := 83) hx hb dX4_told_1 (by decide) (by decide) (by decide) (by decide) ?_
  refine lv_aload_n hx hb dX4_told_83 rfl (lv_at hl 0 rfl) ?_
  refine mr_getr (r := b + 1) (TT := TX4) (N := 10) C0 uX4_told_X4 hM hMo.1.1 hMo.1.2 rfl 0 (by decide) rfl kX4_told_f7 rfl dX4_told_84 ?_
  refine lv_sipush (v := nI 266) hx hb dX4_told_87 (by decide) ?_
  refine mr_ialdN (v := I (b + 1) 266) C0 hM hMo.2.1.1 hMo.2.1.2 (by decide) (by decide) rfl dX4_told_90 ?_
  skip
  exact mr_iret (v := I (b + 1) 266) C0 hr hlk hQ hS rfl hM (Nat.le_refl _) (Nat.le_refl _) dX4_told_91
set_option maxHeartbeats 4000000 in
set_option maxRecDepth 100000 in
theorem ctX4_told_4 {l : Launch} {D : va_G} {T : Nat → ClassId} {L : List Nat} {A : Nat → Prop} {Sh : hm_S} {I : hm_I} {J : hm_J} {b : Nat} (hMo : IsM L Sh b) {c : Nat → Nat} {e : Nat → Nat → Nat} {ep lg : Nat} (hWm : WfM (I (b + 1)) c e ep lg) {pm : Nat} (hpm : I b 2 = nI pm) (hp8 : pm ≤ 8) :
    Ct l yX4_told wsX4_told { frames := 3, cells := 0, slots := 0, locals := 68 } 0 0 D T A [.ref b, .int (nI 4)] (hm D T L A Sh I J) (some (.int (fX4_allWaitingSizes I b c))) (hm D T L A Sh I J) := by
  refine Ct.ofW (cc := cX4_told) (maxL := 2) (ret := (some .int)) (by decide) rfl (Nat.le_of_ble_eq_true rfl) ?_
  intro p_ e_ s_ m_ args_ below_ meth_ c_ ls R Qq hR hQ C0 hr hlk hname hM hl
  have hx := C0.1.1
  have hb := C0.1.2.1
  have hS : va_S A s_.heap s_.heap [] := va_S.rf
  have hl : lv_has ls 2 [(0, .ref b), (1, .int (nI 4))] := hl
  refine lv_iload_n hx hb dX4_told_0 rfl (lv_at hl 1 rfl) ?_
  refine lv_tableIn (off := 91) (tgt := 92) hx hb dX4_told_1 (by decide) (by decide) (by decide) (by decide) ?_
  refine lv_aload_n hx hb dX4_told_92 rfl (lv_at hl 0 rfl) ?_
  refine mr_callV (As := []) C0 (ctX4_allWaitingSizes (I := I) (J := J) (b := b) hMo hWm) (cwV 0 C0.1.2.2.2.2 gX4_told_X4_allWaitingSizes rfl rfl rfl (by decide +kernel) (by rw [hR]; exact ⟨Nat.le_of_ble_eq_true rfl, Nat.le_of_ble_eq_true rfl⟩)) hM hMo.1.1 hMo.1.2 rfl rfl hM hS rfl rfl rfl hl.1 (Nat.le_of_ble_eq_true rfl) dX4_told_93 (by rw [hR]; exact ⟨Nat.zero_le _, Nat.zero_le _⟩) (fun H locs hM hS => ?_)
  skip
  exact mr_iret (v := fX4_allWaitingSizes I b c) C0 hr hlk hQ hS rfl hM (Nat.le_refl _) (Nat.le_refl _) dX4_told_96
set_option maxHeartbeats 4000000 in
set_option maxRecDepth 100000 in
theorem ctX4_told_5 {l : Launch} {D : va_G} {T : Nat → ClassId} {L : List Nat} {A : Nat → Prop} {Sh : hm_S} {I : hm_I} {J : hm_J} {b : Nat} (hMo : IsM L Sh b) {c : Nat → Nat} {e : Nat → Nat → Nat} {ep lg : Nat} (hWm : WfM (I (b + 1)) c e ep lg) {pm : Nat} (hpm : I b 2 = nI pm) (hp8 : pm ≤ 8) :
    Ct l yX4_told wsX4_told { frames := 0, cells := 0, slots := 0, locals := 0 } 0 0 D T A [.ref b, .int (nI 5)] (hm D T L A Sh I J) (some (.int (nI ep))) (hm D T L A Sh I J) := by
  refine Ct.ofW (cc := cX4_told) (maxL := 2) (ret := (some .int)) (by decide) rfl (Nat.le_of_ble_eq_true rfl) ?_
  intro p_ e_ s_ m_ args_ below_ meth_ c_ ls R Qq hR hQ C0 hr hlk hname hM hl
  have hx := C0.1.1
  have hb := C0.1.2.1
  have hS : va_S A s_.heap s_.heap [] := va_S.rf
  have hl : lv_has ls 2 [(0, .ref b), (1, .int (nI 5))] := hl
  refine lv_iload_n hx hb dX4_told_0 rfl (lv_at hl 1 rfl) ?_
  refine lv_tableIn (off := 96) (tgt := 97) hx hb dX4_told_1 (by decide) (by decide) (by decide) (by decide) ?_
  refine lv_aload_n hx hb dX4_told_97 rfl (lv_at hl 0 rfl) ?_
  refine mr_getr (r := b + 1) (TT := TX4) (N := 10) C0 uX4_told_X4 hM hMo.1.1 hMo.1.2 rfl 0 (by decide) rfl kX4_told_f7 rfl dX4_told_98 ?_
  refine lv_sipush (v := nI 184) hx hb dX4_told_101 (by decide) ?_
  have hw1 := hWm.2.2.2.1
  refine mr_ialdN (v := nI ep) C0 hM hMo.2.1.1 hMo.2.1.2 (by decide) (by decide) hWm.2.2.1 dX4_told_104 ?_
  skip
  exact mr_iret (v := nI ep) C0 hr hlk hQ hS rfl hM (Nat.le_refl _) (Nat.le_refl _) dX4_told_105
set_option maxHeartbeats 4000000 in
set_option maxRecDepth 100000 in
theorem ctX4_told_6 {l : Launch} {D : va_G} {T : Nat → ClassId} {L : List Nat} {A : Nat → Prop} {Sh : hm_S} {I : hm_I} {J : hm_J} {b : Nat} (hMo : IsM L Sh b) {c : Nat → Nat} {e : Nat → Nat → Nat} {ep lg : Nat} (hWm : WfM (I (b + 1)) c e ep lg) {pm : Nat} (hpm : I b 2 = nI pm) (hp8 : pm ≤ 8) :
    Ct l yX4_told wsX4_told { frames := 2, cells := 0, slots := 0, locals := 45 } 0 0 D T A [.ref b, .int (nI 6)] (hm D T L A Sh I J) (some (.int (fX4_edges I b 176))) (hm D T L A Sh I J) := by
  refine Ct.ofW (cc := cX4_told) (maxL := 2) (ret := (some .int)) (by decide) rfl (Nat.le_of_ble_eq_true rfl) ?_
  intro p_ e_ s_ m_ args_ below_ meth_ c_ ls R Qq hR hQ C0 hr hlk hname hM hl
  have hx := C0.1.1
  have hb := C0.1.2.1
  have hS : va_S A s_.heap s_.heap [] := va_S.rf
  have hl : lv_has ls 2 [(0, .ref b), (1, .int (nI 6))] := hl
  refine lv_iload_n hx hb dX4_told_0 rfl (lv_at hl 1 rfl) ?_
  refine lv_tableIn (off := 105) (tgt := 106) hx hb dX4_told_1 (by decide) (by decide) (by decide) (by decide) ?_
  refine lv_aload_n hx hb dX4_told_106 rfl (lv_at hl 0 rfl) ?_
  refine lv_sipush (v := nI 176) hx hb dX4_told_107 (by decide) ?_
  refine mr_callV (As := [.int (nI 176)]) C0 (ctX4_edges (I := I) (J := J) (b := b) (o := 176) hMo (by omega)) (cwV 1 C0.1.2.2.2.2 gX4_told_X4_edges rfl rfl rfl (by decide +kernel) (by rw [hR]; exact ⟨Nat.le_of_ble_eq_true rfl, Nat.le_of_ble_eq_true rfl⟩)) hM hMo.1.1 hMo.1.2 rfl rfl hM hS rfl rfl rfl hl.1 (Nat.le_of_ble_eq_true rfl) dX4_told_110 (by rw [hR]; exact ⟨Nat.zero_le _, Nat.zero_le _⟩) (fun H locs hM hS => ?_)
  skip
  exact mr_iret (v := fX4_edges I b 176) C0 hr hlk hQ hS rfl hM (Nat.le_refl _) (Nat.le_refl _) dX4_told_113
set_option maxHeartbeats 4000000 in
set_option maxRecDepth 100000 in
theorem ctX4_told_7 {l : Launch} {D : va_G} {T : Nat → ClassId} {L : List Nat} {A : Nat → Prop} {Sh : hm_S} {I : hm_I} {J : hm_J} {b : Nat} (hMo : IsM L Sh b) {c : Nat → Nat} {e : Nat → Nat → Nat} {ep lg : Nat} (hWm : WfM (I (b + 1)) c e ep lg) {pm : Nat} (hpm : I b 2 = nI pm) (hp8 : pm ≤ 8) :
    Ct l yX4_told wsX4_told { frames := 5, cells := 0, slots := 0, locals := 112 } 0 0 D T A [.ref b, .int (nI 7)] (hm D T L A Sh I J) (some (.int ((fX4_candidates I b c e).1))) (hm D T L A Sh ((fX4_candidates I b c e).2) J) := by
  refine Ct.ofW (cc := cX4_told) (maxL := 2) (ret := (some .int)) (by decide) rfl (Nat.le_of_ble_eq_true rfl) ?_
  intro p_ e_ s_ m_ args_ below_ meth_ c_ ls R Qq hR hQ C0 hr hlk hname hM hl
  have hx := C0.1.1
  have hb := C0.1.2.1
  have hS : va_S A s_.heap s_.heap [] := va_S.rf
  have hl : lv_has ls 2 [(0, .ref b), (1, .int (nI 7))] := hl
  refine lv_iload_n hx hb dX4_told_0 rfl (lv_at hl 1 rfl) ?_
  refine lv_tableIn (off := 113) (tgt := 114) hx hb dX4_told_1 (by decide) (by decide) (by decide) (by decide) ?_
  refine lv_aload_n hx hb dX4_told_114 rfl (lv_at hl 0 rfl) ?_
  refine mr_callV (As := []) C0 (ctX4_candidates (I := I) (J := J) (b := b) hMo hWm) (cwV 0 C0.1.2.2.2.2 gX4_told_X4_candidates rfl rfl rfl (by decide +kernel) (by rw [hR]; exact ⟨Nat.le_of_ble_eq_true rfl, Nat.le_of_ble_eq_true rfl⟩)) hM hMo.1.1 hMo.1.2 rfl rfl hM hS rfl rfl rfl hl.1 (Nat.le_of_ble_eq_true rfl) dX4_told_115 (by rw [hR]; exact ⟨Nat.zero_le _, Nat.zero_le _⟩) (fun H locs hM hS => ?_)
  skip
  exact mr_iret (v := (fX4_candidates I b c e).1) C0 hr hlk hQ hS rfl hM (Nat.le_refl _) (Nat.le_refl _) dX4_told_118
set_option maxHeartbeats 4000000 in
set_option maxRecDepth 100000 in
theorem ctX4_told_8 {l : Launch} {D : va_G} {T : Nat → ClassId} {L : List Nat} {A : Nat → Prop} {Sh : hm_S} {I : hm_I} {J : hm_J} {b : Nat} (hMo : IsM L Sh b) {c : Nat → Nat} {e : Nat → Nat → Nat} {ep lg : Nat} (hWm : WfM (I (b + 1)) c e ep lg) {pm : Nat} (hpm : I b 2 = nI pm) (hp8 : pm ≤ 8) :
    Ct l yX4_told wsX4_told { frames := 5, cells := 0, slots := 0, locals := 113 } 0 0 D T A [.ref b, .int (nI 8)] (hm D T L A Sh I J) (some (.int ((fX4_nextStream I b c e).1))) (hm D T L A Sh ((fX4_nextStream I b c e).2) J) := by
  refine Ct.ofW (cc := cX4_told) (maxL := 2) (ret := (some .int)) (by decide) rfl (Nat.le_of_ble_eq_true rfl) ?_
  intro p_ e_ s_ m_ args_ below_ meth_ c_ ls R Qq hR hQ C0 hr hlk hname hM hl
  have hx := C0.1.1
  have hb := C0.1.2.1
  have hS : va_S A s_.heap s_.heap [] := va_S.rf
  have hl : lv_has ls 2 [(0, .ref b), (1, .int (nI 8))] := hl
  refine lv_iload_n hx hb dX4_told_0 rfl (lv_at hl 1 rfl) ?_
  refine lv_tableIn (off := 118) (tgt := 119) hx hb dX4_told_1 (by decide) (by decide) (by decide) (by decide) ?_
  refine lv_aload_n hx hb dX4_told_119 rfl (lv_at hl 0 rfl) ?_
  refine mr_callV (As := []) C0 (ctX4_nextStream (I := I) (J := J) (b := b) hMo hWm) (cwV 0 C0.1.2.2.2.2 gX4_told_X4_nextStream rfl rfl rfl (by decide +kernel) (by rw [hR]; exact ⟨Nat.le_of_ble_eq_true rfl, Nat.le_of_ble_eq_true rfl⟩)) hM hMo.1.1 hMo.1.2 rfl rfl hM hS rfl rfl rfl hl.1 (Nat.le_of_ble_eq_true rfl) dX4_told_120 (by rw [hR]; exact ⟨Nat.zero_le _, Nat.zero_le _⟩) (fun H locs hM hS => ?_)
  skip
  exact mr_iret (v := (fX4_nextStream I b c e).1) C0 hr hlk hQ hS rfl hM (Nat.le_refl _) (Nat.le_refl _) dX4_told_123
set_option maxHeartbeats 4000000 in
set_option maxRecDepth 100000 in
theorem ctX4_told_9 {l : Launch} {D : va_G} {T : Nat → ClassId} {L : List Nat} {A : Nat → Prop} {Sh : hm_S} {I : hm_I} {J : hm_J} {b : Nat} (hMo : IsM L Sh b) {c : Nat → Nat} {e : Nat → Nat → Nat} {ep lg : Nat} (hWm : WfM (I (b + 1)) c e ep lg) {pm : Nat} (hpm : I b 2 = nI pm) (hp8 : pm ≤ 8) :
    Ct l yX4_told wsX4_told { frames := 0, cells := 0, slots := 0, locals := 0 } 0 0 D T A [.ref b, .int (nI 9)] (hm D T L A Sh I J) (some (.int (nI lg))) (hm D T L A Sh I J) := by
  refine Ct.ofW (cc := cX4_told) (maxL := 2) (ret := (some .int)) (by decide) rfl (Nat.le_of_ble_eq_true rfl) ?_
  intro p_ e_ s_ m_ args_ below_ meth_ c_ ls R Qq hR hQ C0 hr hlk hname hM hl
  have hx := C0.1.1
  have hb := C0.1.2.1
  have hS : va_S A s_.heap s_.heap [] := va_S.rf
  have hl : lv_has ls 2 [(0, .ref b), (1, .int (nI 9))] := hl
  refine lv_iload_n hx hb dX4_told_0 rfl (lv_at hl 1 rfl) ?_
  refine lv_tableIn (off := 123) (tgt := 124) hx hb dX4_told_1 (by decide) (by decide) (by decide) (by decide) ?_
  refine lv_aload_n hx hb dX4_told_124 rfl (lv_at hl 0 rfl) ?_
  refine mr_getr (r := b + 1) (TT := TX4) (N := 10) C0 uX4_told_X4 hM hMo.1.1 hMo.1.2 rfl 0 (by decide) rfl kX4_told_f7 rfl dX4_told_125 ?_
  refine lv_sipush (v := nI 267) hx hb dX4_told_128 (by decide) ?_
  have hw1 := hWm.2.2.2.2.2
  refine mr_ialdN (v := nI lg) C0 hM hMo.2.1.1 hMo.2.1.2 (by decide) (by decide) hWm.2.2.2.2.1 dX4_told_131 ?_
  skip
  exact mr_iret (v := nI lg) C0 hr hlk hQ hS rfl hM (Nat.le_refl _) (Nat.le_refl _) dX4_told_132
set_option maxHeartbeats 4000000 in
set_option maxRecDepth 100000 in
theorem ctX4_told_10 {l : Launch} {D : va_G} {T : Nat → ClassId} {L : List Nat} {A : Nat → Prop} {Sh : hm_S} {I : hm_I} {J : hm_J} {b : Nat} (hMo : IsM L Sh b) {c : Nat → Nat} {e : Nat → Nat → Nat} {ep lg : Nat} (hWm : WfM (I (b + 1)) c e ep lg) {pm : Nat} (hpm : I b 2 = nI pm) (hp8 : pm ≤ 8) :
    Ct l yX4_told wsX4_told { frames := 0, cells := 0, slots := 0, locals := 0 } 0 0 D T A [.ref b, .int (nI 10)] (hm D T L A Sh I J) (some (.int (nI pm))) (hm D T L A Sh I J) := by
  refine Ct.ofW (cc := cX4_told) (maxL := 2) (ret := (some .int)) (by decide) rfl (Nat.le_of_ble_eq_true rfl) ?_
  intro p_ e_ s_ m_ args_ below_ meth_ c_ ls R Qq hR hQ C0 hr hlk hname hM hl
  have hx := C0.1.1
  have hb := C0.1.2.1
  have hS : va_S A s_.heap s_.heap [] := va_S.rf
  have hl : lv_has ls 2 [(0, .ref b), (1, .int (nI 10))] := hl
  refine lv_iload_n hx hb dX4_told_0 rfl (lv_at hl 1 rfl) ?_
  refine lv_tableIn (off := 132) (tgt := 133) hx hb dX4_told_1 (by decide) (by decide) (by decide) (by decide) ?_
  refine lv_aload_n hx hb dX4_told_133 rfl (lv_at hl 0 rfl) ?_
  refine mr_geti (v := nI pm) (TT := TX4) (N := 10) C0 uX4_told_X4 hM hMo.1.1 hMo.1.2 rfl 2 (by decide) rfl hpm kX4_told_f39 rfl dX4_told_134 ?_
  skip
  exact mr_iret (v := nI pm) C0 hr hlk hQ hS rfl hM (Nat.le_refl _) (Nat.le_refl _) dX4_told_137
def fX4_told_11 (I : hm_I) (b ep : Nat) : Int32 :=
  if fX4_isCommitted I b ep = true then nI 1 else nI 0
set_option maxHeartbeats 4000000 in
set_option maxRecDepth 100000 in
theorem ctX4_told_11 {l : Launch} {D : va_G} {T : Nat → ClassId} {L : List Nat} {A : Nat → Prop} {Sh : hm_S} {I : hm_I} {J : hm_J} {b : Nat} (hMo : IsM L Sh b) {c : Nat → Nat} {e : Nat → Nat → Nat} {ep lg : Nat} (hWm : WfM (I (b + 1)) c e ep lg) :
    Ct l yX4_told wsX4_told { frames := 2, cells := 0, slots := 0, locals := 42 } 0 0 D T A [.ref b, .int (nI 11)] (hm D T L A Sh I J) (some (.int (fX4_told_11 I b ep))) (hm D T L A Sh I J) := by
  refine Ct.ofW (cc := cX4_told) (maxL := 2) (ret := (some .int)) (by decide) rfl (Nat.le_of_ble_eq_true rfl) ?_
  intro p_ e_ s_ m_ args_ below_ meth_ c_ ls R Qq hR hQ C0 hr hlk hname hM hl
  have hx := C0.1.1
  have hb := C0.1.2.1
  have hS : va_S A s_.heap s_.heap [] := va_S.rf
  have hl : lv_has ls 2 [(0, .ref b), (1, .int (nI 11))] := hl
  refine lv_iload_n hx hb dX4_told_0 rfl (lv_at hl 1 rfl) ?_
  refine lv_tableIn (off := 137) (tgt := 138) hx hb dX4_told_1 (by decide) (by decide) (by decide) (by decide) ?_
  refine lv_aload_n hx hb dX4_told_138 rfl (lv_at hl 0 rfl) ?_
  refine mr_callV (As := []) C0 (ctX4_isCommitted (I := I) (J := J) (b := b) hMo hWm) (cwV 0 C0.1.2.2.2.2 gX4_told_X4_isCommitted rfl rfl rfl (by decide +kernel) (by rw [hR]; exact ⟨Nat.le_of_ble_eq_true rfl, Nat.le_of_ble_eq_true rfl⟩)) hM hMo.1.1 hMo.1.2 rfl rfl hM hS rfl rfl rfl hl.1 (Nat.le_of_ble_eq_true rfl) dX4_told_139 (by rw [hR]; exact ⟨Nat.zero_le _, Nat.zero_le _⟩) (fun H locs hM hS => ?_)
  refine mr_eqB (tgt := 149) C0 dX4_told_142 (by decide) (fun c1 => ?_) (fun c1 => ?_)
  · skip
    refine lv_iconst (v := nI 0) hx hb dX4_told_149 (by decide) ?_
    have eF : nI 0 = fX4_told_11 I b ep := by unfold fX4_told_11; rw [if_neg (Bool.eq_false_iff.mp c1)]
    exact mr_iret (v := nI 0) C0 hr hlk hQ hS (by rw [← eF]) hM (Nat.le_refl _) (Nat.le_refl _) dX4_told_150
  · skip
    refine lv_iconst (v := nI 1) hx hb dX4_told_145 (by decide) ?_
    refine lv_goto (tgt := 150) hx hb dX4_told_146 (by decide) ?_
    have eF : nI 1 = fX4_told_11 I b ep := by unfold fX4_told_11; rw [if_pos c1]
    exact mr_iret (v := nI 1) C0 hr hlk hQ hS (by rw [← eF]) hM (Nat.le_refl _) (Nat.le_refl _) dX4_told_150
set_option maxHeartbeats 4000000 in
set_option maxRecDepth 100000 in
theorem ctX4_told_b {l : Launch} {D : va_G} {T : Nat → ClassId} {L : List Nat} {A : Nat → Prop} {Sh : hm_S} {I : hm_I} {J : hm_J} {b : Nat} (hMo : IsM L Sh b) {w0 : Int32} (hb0 : w0.toInt < 0 ∨ 11 < w0.toInt) :
    Ct l yX4_told wsX4_told { frames := 0, cells := 0, slots := 0, locals := 0 } 0 0 D T A [.ref b, .int w0] (hm D T L A Sh I J) (some (.int (-1))) (hm D T L A Sh I J) := by
  refine Ct.ofW (cc := cX4_told) (maxL := 2) (ret := (some .int)) (by decide) rfl (Nat.le_of_ble_eq_true rfl) ?_
  intro p_ e_ s_ m_ args_ below_ meth_ c_ ls R Qq hR hQ C0 hr hlk hname hM hl
  have hx := C0.1.1
  have hb := C0.1.2.1
  have hS : va_S A s_.heap s_.heap [] := va_S.rf
  have hl : lv_has ls 2 [(0, .ref b), (1, .int w0)] := hl
  refine lv_iload_n hx hb dX4_told_0 rfl (lv_at hl 1 rfl) ?_
  refine lv_tableOut (tgt := 151) hx hb dX4_told_1 hb0 (by decide) ?_
  refine lv_iconst (v := (-1)) hx hb dX4_told_151 (by decide) ?_
  skip
  exact mr_iret (v := (-1)) C0 hr hlk hQ hS rfl hM (Nat.le_refl _) (Nat.le_refl _) dX4_told_152
set_option maxHeartbeats 4000000 in
set_option maxRecDepth 100000 in
theorem ctX4_stream_b {l : Launch} {D : va_G} {T : Nat → ClassId} {L : List Nat} {A : Nat → Prop} {Sh : hm_S} {I : hm_I} {J : hm_J} {b : Nat} (hMo : IsM L Sh b) {s0 w0 : Int32} (hb0 : (fX4_isStream s0 && fX4_isIn w0 (nI 0) (nI 7)) = false) :
    Ct l yX4_stream wsX4_stream { frames := 2, cells := 0, slots := 0, locals := 42 } 0 0 D T A [.ref b, .int s0, .int w0] (hm D T L A Sh I J) (some (.int (-1))) (hm D T L A Sh I J) := by
  refine Ct.ofW (cc := cX4_stream) (maxL := 3) (ret := (some .int)) (by decide) rfl (Nat.le_of_ble_eq_true rfl) ?_
  intro p_ e_ s_ m_ args_ below_ meth_ c_ ls R Qq hR hQ C0 hr hlk hname hM hl
  have hx := C0.1.1
  have hb := C0.1.2.1
  have hS : va_S A s_.heap s_.heap [] := va_S.rf
  have hl : lv_has ls 3 [(0, .ref b), (1, .int s0), (2, .int w0)] := hl
  refine lv_iload_n hx hb dX4_stream_0 rfl (lv_at hl 1 rfl) ?_
  refine mr_callS (As := [.int s0]) C0 (ctX4_isStream (I := I) (J := J) (s0 := s0) ) (va_cwS 1 C0.1.2.2.2.2 gX4_stream_X4_isStream rfl rfl rfl (by decide +kernel) (by rw [hR]; exact ⟨Nat.le_of_ble_eq_true rfl, Nat.le_of_ble_eq_true rfl⟩)) hM hS rfl rfl rfl hl.1 (Nat.le_of_ble_eq_true rfl) dX4_stream_1 (by rw [hR]; exact ⟨Nat.zero_le _, Nat.zero_le _⟩) (fun H locs hM hS => ?_)
  refine mr_eqB (tgt := 17) C0 dX4_stream_4 (by decide) (fun c1 => ?_) (fun c1 => ?_)
  · skip
    refine lv_iconst (v := (-1)) hx hb dX4_stream_17 (by decide) ?_
    skip
    exact mr_iret (v := (-1)) C0 hr hlk hQ hS rfl hM (Nat.le_refl _) (Nat.le_refl _) dX4_stream_18
  · skip
    refine lv_iload_n hx hb dX4_stream_7 rfl (lv_at hl 2 rfl) ?_
    refine lv_iconst (v := nI 0) hx hb dX4_stream_8 (by decide) ?_
    refine lv_bipush (v := nI 7) hx hb dX4_stream_9 (by decide) ?_
    refine mr_callS (As := [.int w0, .int (nI 0), .int (nI 7)]) C0 (ctX4_isIn (I := I) (J := J) (v := w0) (lo := (nI 0)) (up := (nI 7)) ) (va_cwS 3 C0.1.2.2.2.2 gX4_stream_X4_isIn rfl rfl rfl (by decide +kernel) (by rw [hR]; exact ⟨Nat.le_of_ble_eq_true rfl, Nat.le_of_ble_eq_true rfl⟩)) hM hS rfl rfl rfl hl.1 (Nat.le_of_ble_eq_true rfl) dX4_stream_11 (by rw [hR]; exact ⟨Nat.zero_le _, Nat.zero_le _⟩) (fun H locs hM hS => ?_)
    refine mr_neB (tgt := 19) C0 dX4_stream_14 (by decide) (fun c2 => absurd hb0 (by rw [c1, c2]; decide)) (fun c2 => ?_)
    refine lv_iconst (v := (-1)) hx hb dX4_stream_17 (by decide) ?_
    skip
    exact mr_iret (v := (-1)) C0 hr hlk hQ hS rfl hM (Nat.le_refl _) (Nat.le_refl _) dX4_stream_18
set_option maxHeartbeats 4000000 in
set_option maxRecDepth 100000 in
theorem ctX4_stream_0 {l : Launch} {D : va_G} {T : Nat → ClassId} {L : List Nat} {A : Nat → Prop} {Sh : hm_S} {I : hm_I} {J : hm_J} {b : Nat} (hMo : IsM L Sh b) {s0 : Nat} (hs0 : s0 < 8) :
    Ct l yX4_stream wsX4_stream { frames := 2, cells := 0, slots := 0, locals := 42 } 0 0 D T A [.ref b, .int (nI s0), .int (nI 0)] (hm D T L A Sh I J) (some (.int (I (b + 1) (0 + s0)))) (hm D T L A Sh I J) := by
  refine Ct.ofW (cc := cX4_stream) (maxL := 3) (ret := (some .int)) (by decide) rfl (Nat.le_of_ble_eq_true rfl) ?_
  intro p_ e_ s_ m_ args_ below_ meth_ c_ ls R Qq hR hQ C0 hr hlk hname hM hl
  have hx := C0.1.1
  have hb := C0.1.2.1
  have hS : va_S A s_.heap s_.heap [] := va_S.rf
  have hl : lv_has ls 3 [(0, .ref b), (1, .int (nI s0)), (2, .int (nI 0))] := hl
  refine lv_iload_n hx hb dX4_stream_0 rfl (lv_at hl 1 rfl) ?_
  refine mr_callS (As := [.int (nI s0)]) C0 (isStreamM_t (I := I) (J := J) (s0 := s0) (by omega)) (va_cwS 1 C0.1.2.2.2.2 gX4_stream_X4_isStream rfl rfl rfl (by decide +kernel) (by rw [hR]; exact ⟨Nat.le_of_ble_eq_true rfl, Nat.le_of_ble_eq_true rfl⟩)) hM hS rfl rfl rfl hl.1 (Nat.le_of_ble_eq_true rfl) dX4_stream_1 (by rw [hR]; exact ⟨Nat.zero_le _, Nat.zero_le _⟩) (fun H locs hM hS => ?_)
  refine mr_eqB (tgt := 17) C0 dX4_stream_4 (by decide) (fun c1 => absurd c1 (by decide)) (fun _ => ?_)
  refine lv_iload_n hx hb dX4_stream_7 rfl (lv_at hl 2 rfl) ?_
  refine lv_iconst (v := nI 0) hx hb dX4_stream_8 (by decide) ?_
  refine lv_bipush (v := nI 7) hx hb dX4_stream_9 (by decide) ?_
  refine mr_callS (As := [.int (nI 0), .int (nI 0), .int (nI 7)]) C0 (ctX4_isIn (I := I) (J := J) (v := (nI 0)) (lo := (nI 0)) (up := (nI 7)) ) (va_cwS 3 C0.1.2.2.2.2 gX4_stream_X4_isIn rfl rfl rfl (by decide +kernel) (by rw [hR]; exact ⟨Nat.le_of_ble_eq_true rfl, Nat.le_of_ble_eq_true rfl⟩)) hM hS rfl rfl rfl hl.1 (Nat.le_of_ble_eq_true rfl) dX4_stream_11 (by rw [hR]; exact ⟨Nat.zero_le _, Nat.zero_le _⟩) (fun H locs hM hS => ?_)
  refine mr_neB (tgt := 19) C0 dX4_stream_14 (by decide) (fun c2 => ?_) (fun c2 => absurd c2 (by decide))
  refine lv_iload_n hx hb dX4_stream_19 rfl (lv_at hl 2 rfl) ?_
  refine lv_tableIn (off := 36) (tgt := 56) hx hb dX4_stream_20 (by decide) (by decide) (by decide) (by decide) ?_
  refine lv_aload_n hx hb dX4_stream_56 rfl (lv_at hl 0 rfl) ?_
  refine mr_getr (r := b + 1) (TT := TX4) (N := 10) C0 uX4_stream_X4 hM hMo.1.1 hMo.1.2 rfl 0 (by decide) rfl kX4_stream_f7 rfl dX4_stream_57 ?_
  refine lv_iconst (v := nI 0) hx hb dX4_stream_60 (by decide) ?_
  refine lv_iload_n hx hb dX4_stream_61 rfl (lv_at hl 1 rfl) ?_
  refine mr_iaddN (z := 0 + s0) C0 rfl dX4_stream_62 ?_
  refine mr_ialdN (v := I (b + 1) (0 + s0)) C0 hM hMo.2.1.1 hMo.2.1.2 (by decide) (by omega) rfl dX4_stream_63 ?_
  skip
  exact mr_iret (v := I (b + 1) (0 + s0)) C0 hr hlk hQ hS rfl hM (Nat.le_refl _) (Nat.le_refl _) dX4_stream_64
set_option maxHeartbeats 4000000 in
set_option maxRecDepth 100000 in
theorem ctX4_stream_1 {l : Launch} {D : va_G} {T : Nat → ClassId} {L : List Nat} {A : Nat → Prop} {Sh : hm_S} {I : hm_I} {J : hm_J} {b : Nat} (hMo : IsM L Sh b) {s0 : Nat} (hs0 : s0 < 8) :
    Ct l yX4_stream wsX4_stream { frames := 2, cells := 0, slots := 0, locals := 42 } 0 0 D T A [.ref b, .int (nI s0), .int (nI 1)] (hm D T L A Sh I J) (some (.int (I (b + 1) (8 + s0)))) (hm D T L A Sh I J) := by
  refine Ct.ofW (cc := cX4_stream) (maxL := 3) (ret := (some .int)) (by decide) rfl (Nat.le_of_ble_eq_true rfl) ?_
  intro p_ e_ s_ m_ args_ below_ meth_ c_ ls R Qq hR hQ C0 hr hlk hname hM hl
  have hx := C0.1.1
  have hb := C0.1.2.1
  have hS : va_S A s_.heap s_.heap [] := va_S.rf
  have hl : lv_has ls 3 [(0, .ref b), (1, .int (nI s0)), (2, .int (nI 1))] := hl
  refine lv_iload_n hx hb dX4_stream_0 rfl (lv_at hl 1 rfl) ?_
  refine mr_callS (As := [.int (nI s0)]) C0 (isStreamM_t (I := I) (J := J) (s0 := s0) (by omega)) (va_cwS 1 C0.1.2.2.2.2 gX4_stream_X4_isStream rfl rfl rfl (by decide +kernel) (by rw [hR]; exact ⟨Nat.le_of_ble_eq_true rfl, Nat.le_of_ble_eq_true rfl⟩)) hM hS rfl rfl rfl hl.1 (Nat.le_of_ble_eq_true rfl) dX4_stream_1 (by rw [hR]; exact ⟨Nat.zero_le _, Nat.zero_le _⟩) (fun H locs hM hS => ?_)
  refine mr_eqB (tgt := 17) C0 dX4_stream_4 (by decide) (fun c1 => absurd c1 (by decide)) (fun _ => ?_)
  refine lv_iload_n hx hb dX4_stream_7 rfl (lv_at hl 2 rfl) ?_
  refine lv_iconst (v := nI 0) hx hb dX4_stream_8 (by decide) ?_
  refine lv_bipush (v := nI 7) hx hb dX4_stream_9 (by decide) ?_
  refine mr_callS (As := [.int (nI 1), .int (nI 0), .int (nI 7)]) C0 (ctX4_isIn (I := I) (J := J) (v := (nI 1)) (lo := (nI 0)) (up := (nI 7)) ) (va_cwS 3 C0.1.2.2.2.2 gX4_stream_X4_isIn rfl rfl rfl (by decide +kernel) (by rw [hR]; exact ⟨Nat.le_of_ble_eq_true rfl, Nat.le_of_ble_eq_true rfl⟩)) hM hS rfl rfl rfl hl.1 (Nat.le_of_ble_eq_true rfl) dX4_stream_11 (by rw [hR]; exact ⟨Nat.zero_le _, Nat.zero_le _⟩) (fun H locs hM hS => ?_)
  refine mr_neB (tgt := 19) C0 dX4_stream_14 (by decide) (fun c2 => ?_) (fun c2 => absurd c2 (by decide))
  refine lv_iload_n hx hb dX4_stream_19 rfl (lv_at hl 2 rfl) ?_
  refine lv_tableIn (off := 45) (tgt := 65) hx hb dX4_stream_20 (by decide) (by decide) (by decide) (by decide) ?_
  refine lv_aload_n hx hb dX4_stream_65 rfl (lv_at hl 0 rfl) ?_
  refine mr_getr (r := b + 1) (TT := TX4) (N := 10) C0 uX4_stream_X4 hM hMo.1.1 hMo.1.2 rfl 0 (by decide) rfl kX4_stream_f7 rfl dX4_stream_66 ?_
  refine lv_bipush (v := nI 8) hx hb dX4_stream_69 (by decide) ?_
  refine lv_iload_n hx hb dX4_stream_71 rfl (lv_at hl 1 rfl) ?_
  refine mr_iaddN (z := 8 + s0) C0 rfl dX4_stream_72 ?_
  refine mr_ialdN (v := I (b + 1) (8 + s0)) C0 hM hMo.2.1.1 hMo.2.1.2 (by decide) (by omega) rfl dX4_stream_73 ?_
  skip
  exact mr_iret (v := I (b + 1) (8 + s0)) C0 hr hlk hQ hS rfl hM (Nat.le_refl _) (Nat.le_refl _) dX4_stream_74
set_option maxHeartbeats 4000000 in
set_option maxRecDepth 100000 in
theorem ctX4_stream_2 {l : Launch} {D : va_G} {T : Nat → ClassId} {L : List Nat} {A : Nat → Prop} {Sh : hm_S} {I : hm_I} {J : hm_J} {b : Nat} (hMo : IsM L Sh b) {s0 : Nat} (hs0 : s0 < 8) :
    Ct l yX4_stream wsX4_stream { frames := 2, cells := 0, slots := 0, locals := 42 } 0 0 D T A [.ref b, .int (nI s0), .int (nI 2)] (hm D T L A Sh I J) (some (.int (I (b + 1) (16 + s0)))) (hm D T L A Sh I J) := by
  refine Ct.ofW (cc := cX4_stream) (maxL := 3) (ret := (some .int)) (by decide) rfl (Nat.le_of_ble_eq_true rfl) ?_
  intro p_ e_ s_ m_ args_ below_ meth_ c_ ls R Qq hR hQ C0 hr hlk hname hM hl
  have hx := C0.1.1
  have hb := C0.1.2.1
  have hS : va_S A s_.heap s_.heap [] := va_S.rf
  have hl : lv_has ls 3 [(0, .ref b), (1, .int (nI s0)), (2, .int (nI 2))] := hl
  refine lv_iload_n hx hb dX4_stream_0 rfl (lv_at hl 1 rfl) ?_
  refine mr_callS (As := [.int (nI s0)]) C0 (isStreamM_t (I := I) (J := J) (s0 := s0) (by omega)) (va_cwS 1 C0.1.2.2.2.2 gX4_stream_X4_isStream rfl rfl rfl (by decide +kernel) (by rw [hR]; exact ⟨Nat.le_of_ble_eq_true rfl, Nat.le_of_ble_eq_true rfl⟩)) hM hS rfl rfl rfl hl.1 (Nat.le_of_ble_eq_true rfl) dX4_stream_1 (by rw [hR]; exact ⟨Nat.zero_le _, Nat.zero_le _⟩) (fun H locs hM hS => ?_)
  refine mr_eqB (tgt := 17) C0 dX4_stream_4 (by decide) (fun c1 => absurd c1 (by decide)) (fun _ => ?_)
  refine lv_iload_n hx hb dX4_stream_7 rfl (lv_at hl 2 rfl) ?_
  refine lv_iconst (v := nI 0) hx hb dX4_stream_8 (by decide) ?_
  refine lv_bipush (v := nI 7) hx hb dX4_stream_9 (by decide) ?_
  refine mr_callS (As := [.int (nI 2), .int (nI 0), .int (nI 7)]) C0 (ctX4_isIn (I := I) (J := J) (v := (nI 2)) (lo := (nI 0)) (up := (nI 7)) ) (va_cwS 3 C0.1.2.2.2.2 gX4_stream_X4_isIn rfl rfl rfl (by decide +kernel) (by rw [hR]; exact ⟨Nat.le_of_ble_eq_true rfl, Nat.le_of_ble_eq_true rfl⟩)) hM hS rfl rfl rfl hl.1 (Nat.le_of_ble_eq_true rfl) dX4_stream_11 (by rw [hR]; exact ⟨Nat.zero_le _, Nat.zero_le _⟩) (fun H locs hM hS => ?_)
  refine mr_neB (tgt := 19) C0 dX4_stream_14 (by decide) (fun c2 => ?_) (fun c2 => absurd c2 (by decide))
  refine lv_iload_n hx hb dX4_stream_19 rfl (lv_at hl 2 rfl) ?_
  refine lv_tableIn (off := 55) (tgt := 75) hx hb dX4_stream_20 (by decide) (by decide) (by decide) (by decide) ?_
  refine lv_aload_n hx hb dX4_stream_75 rfl (lv_at hl 0 rfl) ?_
  refine mr_getr (r := b + 1) (TT := TX4) (N := 10) C0 uX4_stream_X4 hM hMo.1.1 hMo.1.2 rfl 0 (by decide) rfl kX4_stream_f7 rfl dX4_stream_76 ?_
  refine lv_bipush (v := nI 16) hx hb dX4_stream_79 (by decide) ?_
  refine lv_iload_n hx hb dX4_stream_81 rfl (lv_at hl 1 rfl) ?_
  refine mr_iaddN (z := 16 + s0) C0 rfl dX4_stream_82 ?_
  refine mr_ialdN (v := I (b + 1) (16 + s0)) C0 hM hMo.2.1.1 hMo.2.1.2 (by decide) (by omega) rfl dX4_stream_83 ?_
  skip
  exact mr_iret (v := I (b + 1) (16 + s0)) C0 hr hlk hQ hS rfl hM (Nat.le_refl _) (Nat.le_refl _) dX4_stream_84
set_option maxHeartbeats 4000000 in
set_option maxRecDepth 100000 in
theorem ctX4_stream_3 {l : Launch} {D : va_G} {T : Nat → ClassId} {L : List Nat} {A : Nat → Prop} {Sh : hm_S} {I : hm_I} {J : hm_J} {b : Nat} (hMo : IsM L Sh b) {s0 : Nat} (hs0 : s0 < 8) :
    Ct l yX4_stream wsX4_stream { frames := 2, cells := 0, slots := 0, locals := 42 } 0 0 D T A [.ref b, .int (nI s0), .int (nI 3)] (hm D T L A Sh I J) (some (.int (I (b + 1) (24 + s0)))) (hm D T L A Sh I J) := by
  refine Ct.ofW (cc := cX4_stream) (maxL := 3) (ret := (some .int)) (by decide) rfl (Nat.le_of_ble_eq_true rfl) ?_
  intro p_ e_ s_ m_ args_ below_ meth_ c_ ls R Qq hR hQ C0 hr hlk hname hM hl
  have hx := C0.1.1
  have hb := C0.1.2.1
  have hS : va_S A s_.heap s_.heap [] := va_S.rf
  have hl : lv_has ls 3 [(0, .ref b), (1, .int (nI s0)), (2, .int (nI 3))] := hl
  refine lv_iload_n hx hb dX4_stream_0 rfl (lv_at hl 1 rfl) ?_
  refine mr_callS (As := [.int (nI s0)]) C0 (isStreamM_t (I := I) (J := J) (s0 := s0) (by omega)) (va_cwS 1 C0.1.2.2.2.2 gX4_stream_X4_isStream rfl rfl rfl (by decide +kernel) (by rw [hR]; exact ⟨Nat.le_of_ble_eq_true rfl, Nat.le_of_ble_eq_true rfl⟩)) hM hS rfl rfl rfl hl.1 (Nat.le_of_ble_eq_true rfl) dX4_stream_1 (by rw [hR]; exact ⟨Nat.zero_le _, Nat.zero_le _⟩) (fun H locs hM hS => ?_)
  refine mr_eqB (tgt := 17) C0 dX4_stream_4 (by decide) (fun c1 => absurd c1 (by decide)) (fun _ => ?_)
  refine lv_iload_n hx hb dX4_stream_7 rfl (lv_at hl 2 rfl) ?_
  refine lv_iconst (v := nI 0) hx hb dX4_stream_8 (by decide) ?_
  refine lv_bipush (v := nI 7) hx hb dX4_stream_9 (by decide) ?_
  refine mr_callS (As := [.int (nI 3), .int (nI 0), .int (nI 7)]) C0 (ctX4_isIn (I := I) (J := J) (v := (nI 3)) (lo := (nI 0)) (up := (nI 7)) ) (va_cwS 3 C0.1.2.2.2.2 gX4_stream_X4_isIn rfl rfl rfl (by decide +kernel) (by rw [hR]; exact ⟨Nat.le_of_ble_eq_true rfl, Nat.le_of_ble_eq_true rfl⟩)) hM hS rfl rfl rfl hl.1 (Nat.le_of_ble_eq_true rfl) dX4_stream_11 (by rw [hR]; exact ⟨Nat.zero_le _, Nat.zero_le _⟩) (fun H locs hM hS => ?_)
  refine mr_neB (tgt := 19) C0 dX4_stream_14 (by decide) (fun c2 => ?_) (fun c2 => absurd c2 (by decide))
  refine lv_iload_n hx hb dX4_stream_19 rfl (lv_at hl 2 rfl) ?_
  refine lv_tableIn (off := 65) (tgt := 85) hx hb dX4_stream_20 (by decide) (by decide) (by decide) (by decide) ?_
  refine lv_aload_n hx hb dX4_stream_85 rfl (lv_at hl 0 rfl) ?_
  refine mr_getr (r := b + 1) (TT := TX4) (N := 10) C0 uX4_stream_X4 hM hMo.1.1 hMo.1.2 rfl 0 (by decide) rfl kX4_stream_f7 rfl dX4_stream_86 ?_
  refine lv_bipush (v := nI 24) hx hb dX4_stream_89 (by decide) ?_
  refine lv_iload_n hx hb dX4_stream_91 rfl (lv_at hl 1 rfl) ?_
  refine mr_iaddN (z := 24 + s0) C0 rfl dX4_stream_92 ?_
  refine mr_ialdN (v := I (b + 1) (24 + s0)) C0 hM hMo.2.1.1 hMo.2.1.2 (by decide) (by omega) rfl dX4_stream_93 ?_
  skip
  exact mr_iret (v := I (b + 1) (24 + s0)) C0 hr hlk hQ hS rfl hM (Nat.le_refl _) (Nat.le_refl _) dX4_stream_94
set_option maxHeartbeats 4000000 in
set_option maxRecDepth 100000 in
theorem ctX4_stream_4 {l : Launch} {D : va_G} {T : Nat → ClassId} {L : List Nat} {A : Nat → Prop} {Sh : hm_S} {I : hm_I} {J : hm_J} {b : Nat} (hMo : IsM L Sh b) {c : Nat → Nat} {e : Nat → Nat → Nat} {ep lg : Nat} (hWm : WfM (I (b + 1)) c e ep lg) {s0 : Nat} (hs0 : s0 < 8) :
    Ct l yX4_stream wsX4_stream { frames := 2, cells := 0, slots := 0, locals := 46 } 0 0 D T A [.ref b, .int (nI s0), .int (nI 4)] (hm D T L A Sh I J) (some (.int (fX4_waitingSize I b c s0))) (hm D T L A Sh I J) := by
  refine Ct.ofW (cc := cX4_stream) (maxL := 3) (ret := (some .int)) (by decide) rfl (Nat.le_of_ble_eq_true rfl) ?_
  intro p_ e_ s_ m_ args_ below_ meth_ c_ ls R Qq hR hQ C0 hr hlk hname hM hl
  have hx := C0.1.1
  have hb := C0.1.2.1
  have hS : va_S A s_.heap s_.heap [] := va_S.rf
  have hl : lv_has ls 3 [(0, .ref b), (1, .int (nI s0)), (2, .int (nI 4))] := hl
  refine lv_iload_n hx hb dX4_stream_0 rfl (lv_at hl 1 rfl) ?_
  refine mr_callS (As := [.int (nI s0)]) C0 (isStreamM_t (I := I) (J := J) (s0 := s0) (by omega)) (va_cwS 1 C0.1.2.2.2.2 gX4_stream_X4_isStream rfl rfl rfl (by decide +kernel) (by rw [hR]; exact ⟨Nat.le_of_ble_eq_true rfl, Nat.le_of_ble_eq_true rfl⟩)) hM hS rfl rfl rfl hl.1 (Nat.le_of_ble_eq_true rfl) dX4_stream_1 (by rw [hR]; exact ⟨Nat.zero_le _, Nat.zero_le _⟩) (fun H locs hM hS => ?_)
  refine mr_eqB (tgt := 17) C0 dX4_stream_4 (by decide) (fun c1 => absurd c1 (by decide)) (fun _ => ?_)
  refine lv_iload_n hx hb dX4_stream_7 rfl (lv_at hl 2 rfl) ?_
  refine lv_iconst (v := nI 0) hx hb dX4_stream_8 (by decide) ?_
  refine lv_bipush (v := nI 7) hx hb dX4_stream_9 (by decide) ?_
  refine mr_callS (As := [.int (nI 4), .int (nI 0), .int (nI 7)]) C0 (ctX4_isIn (I := I) (J := J) (v := (nI 4)) (lo := (nI 0)) (up := (nI 7)) ) (va_cwS 3 C0.1.2.2.2.2 gX4_stream_X4_isIn rfl rfl rfl (by decide +kernel) (by rw [hR]; exact ⟨Nat.le_of_ble_eq_true rfl, Nat.le_of_ble_eq_true rfl⟩)) hM hS rfl rfl rfl hl.1 (Nat.le_of_ble_eq_true rfl) dX4_stream_11 (by rw [hR]; exact ⟨Nat.zero_le _, Nat.zero_le _⟩) (fun H locs hM hS => ?_)
  refine mr_neB (tgt := 19) C0 dX4_stream_14 (by decide) (fun c2 => ?_) (fun c2 => absurd c2 (by decide))
  refine lv_iload_n hx hb dX4_stream_19 rfl (lv_at hl 2 rfl) ?_
  refine lv_tableIn (off := 75) (tgt := 95) hx hb dX4_stream_20 (by decide) (by decide) (by decide) (by decide) ?_
  refine lv_aload_n hx hb dX4_stream_95 rfl (lv_at hl 0 rfl) ?_
  refine lv_iload_n hx hb dX4_stream_96 rfl (lv_at hl 1 rfl) ?_
  refine mr_callV (As := [.int (nI s0)]) C0 (ctX4_waitingSize (I := I) (J := J) (b := b) (s0 := s0) hMo hWm (by omega)) (cwV 1 C0.1.2.2.2.2 gX4_stream_X4_waitingSize rfl rfl rfl (by decide +kernel) (by rw [hR]; exact ⟨Nat.le_of_ble_eq_true rfl, Nat.le_of_ble_eq_true rfl⟩)) hM hMo.1.1 hMo.1.2 rfl rfl hM hS rfl rfl rfl hl.1 (Nat.le_of_ble_eq_true rfl) dX4_stream_97 (by rw [hR]; exact ⟨Nat.zero_le _, Nat.zero_le _⟩) (fun H locs hM hS => ?_)
  skip
  exact mr_iret (v := fX4_waitingSize I b c s0) C0 hr hlk hQ hS rfl hM (Nat.le_refl _) (Nat.le_refl _) dX4_stream_100
def fX4_stream_5 (I : hm_I) (b : Nat) (c : Nat → Nat) (e : Nat → Nat → Nat) (s0 : Nat) : Int32 × hm_I :=
  if (c s0) = 0 then ((-9), I) else if (fX4_isCandidate_t I b c e s0).1 = true then (nI 1, (fX4_isCandidate_t I b c e s0).2) else (nI 0, (fX4_isCandidate_t I b c e s0).2)
set_option maxHeartbeats 4000000 in
set_option maxRecDepth 100000 in
theorem ctX4_stream_5 {l : Launch} {D : va_G} {T : Nat → ClassId} {L : List Nat} {A : Nat → Prop} {Sh : hm_S} {I : hm_I} {J : hm_J} {b : Nat} (hMo : IsM L Sh b) {c : Nat → Nat} {e : Nat → Nat → Nat} {ep lg : Nat} (hWm : WfM (I (b + 1)) c e ep lg) {s0 : Nat} (hs0 : s0 < 8) :
    Ct l yX4_stream wsX4_stream { frames := 4, cells := 0, slots := 0, locals := 90 } 0 0 D T A [.ref b, .int (nI s0), .int (nI 5)] (hm D T L A Sh I J) (some (.int ((fX4_stream_5 I b c e s0).1))) (hm D T L A Sh ((fX4_stream_5 I b c e s0).2) J) := by
  refine Ct.ofW (cc := cX4_stream) (maxL := 3) (ret := (some .int)) (by decide) rfl (Nat.le_of_ble_eq_true rfl) ?_
  intro p_ e_ s_ m_ args_ below_ meth_ c_ ls R Qq hR hQ C0 hr hlk hname hM hl
  have hx := C0.1.1
  have hb := C0.1.2.1
  have hS : va_S A s_.heap s_.heap [] := va_S.rf
  have hl : lv_has ls 3 [(0, .ref b), (1, .int (nI s0)), (2, .int (nI 5))] := hl
  refine lv_iload_n hx hb dX4_stream_0 rfl (lv_at hl 1 rfl) ?_
  refine mr_callS (As := [.int (nI s0)]) C0 (isStreamM_t (I := I) (J := J) (s0 := s0) (by omega)) (va_cwS 1 C0.1.2.2.2.2 gX4_stream_X4_isStream rfl rfl rfl (by decide +kernel) (by rw [hR]; exact ⟨Nat.le_of_ble_eq_true rfl, Nat.le_of_ble_eq_true rfl⟩)) hM hS rfl rfl rfl hl.1 (Nat.le_of_ble_eq_true rfl) dX4_stream_1 (by rw [hR]; exact ⟨Nat.zero_le _, Nat.zero_le _⟩) (fun H locs hM hS => ?_)
  refine mr_eqB (tgt := 17) C0 dX4_stream_4 (by decide) (fun c1 => absurd c1 (by decide)) (fun _ => ?_)
  refine lv_iload_n hx hb dX4_stream_7 rfl (lv_at hl 2 rfl) ?_
  refine lv_iconst (v := nI 0) hx hb dX4_stream_8 (by decide) ?_
  refine lv_bipush (v := nI 7) hx hb dX4_stream_9 (by decide) ?_
  refine mr_callS (As := [.int (nI 5), .int (nI 0), .int (nI 7)]) C0 (ctX4_isIn (I := I) (J := J) (v := (nI 5)) (lo := (nI 0)) (up := (nI 7)) ) (va_cwS 3 C0.1.2.2.2.2 gX4_stream_X4_isIn rfl rfl rfl (by decide +kernel) (by rw [hR]; exact ⟨Nat.le_of_ble_eq_true rfl, Nat.le_of_ble_eq_true rfl⟩)) hM hS rfl rfl rfl hl.1 (Nat.le_of_ble_eq_true rfl) dX4_stream_11 (by rw [hR]; exact ⟨Nat.zero_le _, Nat.zero_le _⟩) (fun H locs hM hS => ?_)
  refine mr_neB (tgt := 19) C0 dX4_stream_14 (by decide) (fun c2 => ?_) (fun c2 => absurd c2 (by decide))
  refine lv_iload_n hx hb dX4_stream_19 rfl (lv_at hl 2 rfl) ?_
  refine lv_tableOut (tgt := 101) hx hb dX4_stream_20 (by decide) (by decide) ?_
  refine lv_aload_n hx hb dX4_stream_101 rfl (lv_at hl 0 rfl) ?_
  refine mr_getr (r := b + 1) (TT := TX4) (N := 10) C0 uX4_stream_X4 hM hMo.1.1 hMo.1.2 rfl 0 (by decide) rfl kX4_stream_f7 rfl dX4_stream_102 ?_
  refine lv_bipush (v := nI 24) hx hb dX4_stream_105 (by decide) ?_
  refine lv_iload_n hx hb dX4_stream_107 rfl (lv_at hl 1 rfl) ?_
  refine mr_iaddN (z := 24 + s0) C0 rfl dX4_stream_108 ?_
  have hw3 := hWm.1 s0 (by omega)
  have hw3b := hw3.2
  refine mr_ialdN (v := nI (c s0)) C0 hM hMo.2.1.1 hMo.2.1.2 (by decide) (by omega) hw3.1 dX4_stream_109 ?_
  refine mr_ne0N (x := (c s0)) (tgt := 118) C0 dX4_stream_110 (by decide) (by omega) (fun c4 => ?_) (fun c4 => ?_)
  · skip
    refine lv_iload_n hx hb dX4_stream_118 rfl (lv_at hl 2 rfl) ?_
    refine lv_iconst (v := nI 5) hx hb dX4_stream_119 (by decide) ?_
    refine mr_neN (x := 5) (y := 5) (tgt := 139) C0 dX4_stream_120 (by decide) (by decide) (by decide) (fun c5 => absurd c5 (by decide)) (fun _ => ?_)
    refine lv_aload_n hx hb dX4_stream_123 rfl (lv_at hl 0 rfl) ?_
    refine lv_iload_n hx hb dX4_stream_124 rfl (lv_at hl 1 rfl) ?_
    refine mr_callV (As := [.int (nI s0)]) C0 (ctX4_isCandidate_t (I := I) (J := J) (b := b) (s0 := s0) hMo hWm (by omega)) (cwV 1 C0.1.2.2.2.2 gX4_stream_X4_isCandidate rfl rfl rfl (by decide +kernel) (by rw [hR]; exact ⟨Nat.le_of_ble_eq_true rfl, Nat.le_of_ble_eq_true rfl⟩)) hM hMo.1.1 hMo.1.2 rfl rfl hM hS rfl rfl rfl hl.1 (Nat.le_of_ble_eq_true rfl) dX4_stream_125 (by rw [hR]; exact ⟨Nat.zero_le _, Nat.zero_le _⟩) (fun H locs hM hS => ?_)
    refine mr_eqB (tgt := 135) C0 dX4_stream_128 (by decide) (fun c6 => ?_) (fun c6 => ?_)
    · skip
      refine lv_iconst (v := nI 0) hx hb dX4_stream_135 (by decide) ?_
      refine lv_goto (tgt := 164) hx hb dX4_stream_136 (by decide) ?_
      have eF : (nI 0, (fX4_isCandidate_t I b c e s0).2) = fX4_stream_5 I b c e s0 := by unfold fX4_stream_5; rw [if_neg (Nat.ne_of_gt c4), if_neg (Bool.eq_false_iff.mp c6)]
      exact mr_iret (v := nI 0) C0 hr hlk hQ hS (by rw [← eF]) (by rw [← eF]; exact hM) (Nat.le_refl _) (Nat.le_refl _) dX4_stream_164
    · skip
      refine lv_iconst (v := nI 1) hx hb dX4_stream_131 (by decide) ?_
      refine lv_goto (tgt := 164) hx hb dX4_stream_132 (by decide) ?_
      have eF : (nI 1, (fX4_isCandidate_t I b c e s0).2) = fX4_stream_5 I b c e s0 := by unfold fX4_stream_5; rw [if_neg (Nat.ne_of_gt c4), if_pos c6]
      exact mr_iret (v := nI 1) C0 hr hlk hQ hS (by rw [← eF]) (by rw [← eF]; exact hM) (Nat.le_refl _) (Nat.le_refl _) dX4_stream_164
  · skip
    refine lv_bipush (v := (-9)) hx hb dX4_stream_113 (by decide) ?_
    refine lv_goto (tgt := 164) hx hb dX4_stream_115 (by decide) ?_
    have eF : ((-9), I) = fX4_stream_5 I b c e s0 := by unfold fX4_stream_5; rw [if_pos c4]
    exact mr_iret (v := (-9)) C0 hr hlk hQ hS (by rw [← eF]) (by rw [← eF]; exact hM) (Nat.le_refl _) (Nat.le_refl _) dX4_stream_164
def fX4_stream_6 (I : hm_I) (b : Nat) (c : Nat → Nat) (e : Nat → Nat → Nat) (s0 : Nat) : Int32 × hm_I :=
  if (c s0) = 0 then ((-9), I) else ((fX4_blocking_t I b c e s0).1, (fX4_blocking_t I b c e s0).2)
set_option maxHeartbeats 4000000 in
set_option maxRecDepth 100000 in
theorem ctX4_stream_6 {l : Launch} {D : va_G} {T : Nat → ClassId} {L : List Nat} {A : Nat → Prop} {Sh : hm_S} {I : hm_I} {J : hm_J} {b : Nat} (hMo : IsM L Sh b) {c : Nat → Nat} {e : Nat → Nat → Nat} {ep lg : Nat} (hWm : WfM (I (b + 1)) c e ep lg) {s0 : Nat} (hs0 : s0 < 8) :
    Ct l yX4_stream wsX4_stream { frames := 3, cells := 0, slots := 0, locals := 69 } 0 0 D T A [.ref b, .int (nI s0), .int (nI 6)] (hm D T L A Sh I J) (some (.int ((fX4_stream_6 I b c e s0).1))) (hm D T L A Sh ((fX4_stream_6 I b c e s0).2) J) := by
  refine Ct.ofW (cc := cX4_stream) (maxL := 3) (ret := (some .int)) (by decide) rfl (Nat.le_of_ble_eq_true rfl) ?_
  intro p_ e_ s_ m_ args_ below_ meth_ c_ ls R Qq hR hQ C0 hr hlk hname hM hl
  have hx := C0.1.1
  have hb := C0.1.2.1
  have hS : va_S A s_.heap s_.heap [] := va_S.rf
  have hl : lv_has ls 3 [(0, .ref b), (1, .int (nI s0)), (2, .int (nI 6))] := hl
  refine lv_iload_n hx hb dX4_stream_0 rfl (lv_at hl 1 rfl) ?_
  refine mr_callS (As := [.int (nI s0)]) C0 (isStreamM_t (I := I) (J := J) (s0 := s0) (by omega)) (va_cwS 1 C0.1.2.2.2.2 gX4_stream_X4_isStream rfl rfl rfl (by decide +kernel) (by rw [hR]; exact ⟨Nat.le_of_ble_eq_true rfl, Nat.le_of_ble_eq_true rfl⟩)) hM hS rfl rfl rfl hl.1 (Nat.le_of_ble_eq_true rfl) dX4_stream_1 (by rw [hR]; exact ⟨Nat.zero_le _, Nat.zero_le _⟩) (fun H locs hM hS => ?_)
  refine mr_eqB (tgt := 17) C0 dX4_stream_4 (by decide) (fun c1 => absurd c1 (by decide)) (fun _ => ?_)
  refine lv_iload_n hx hb dX4_stream_7 rfl (lv_at hl 2 rfl) ?_
  refine lv_iconst (v := nI 0) hx hb dX4_stream_8 (by decide) ?_
  refine lv_bipush (v := nI 7) hx hb dX4_stream_9 (by decide) ?_
  refine mr_callS (As := [.int (nI 6), .int (nI 0), .int (nI 7)]) C0 (ctX4_isIn (I := I) (J := J) (v := (nI 6)) (lo := (nI 0)) (up := (nI 7)) ) (va_cwS 3 C0.1.2.2.2.2 gX4_stream_X4_isIn rfl rfl rfl (by decide +kernel) (by rw [hR]; exact ⟨Nat.le_of_ble_eq_true rfl, Nat.le_of_ble_eq_true rfl⟩)) hM hS rfl rfl rfl hl.1 (Nat.le_of_ble_eq_true rfl) dX4_stream_11 (by rw [hR]; exact ⟨Nat.zero_le _, Nat.zero_le _⟩) (fun H locs hM hS => ?_)
  refine mr_neB (tgt := 19) C0 dX4_stream_14 (by decide) (fun c2 => ?_) (fun c2 => absurd c2 (by decide))
  refine lv_iload_n hx hb dX4_stream_19 rfl (lv_at hl 2 rfl) ?_
  refine lv_tableOut (tgt := 101) hx hb dX4_stream_20 (by decide) (by decide) ?_
  refine lv_aload_n hx hb dX4_stream_101 rfl (lv_at hl 0 rfl) ?_
  refine mr_getr (r := b + 1) (TT := TX4) (N := 10) C0 uX4_stream_X4 hM hMo.1.1 hMo.1.2 rfl 0 (by decide) rfl kX4_stream_f7 rfl dX4_stream_102 ?_
  refine lv_bipush (v := nI 24) hx hb dX4_stream_105 (by decide) ?_
  refine lv_iload_n hx hb dX4_stream_107 rfl (lv_at hl 1 rfl) ?_
  refine mr_iaddN (z := 24 + s0) C0 rfl dX4_stream_108 ?_
  have hw3 := hWm.1 s0 (by omega)
  have hw3b := hw3.2
  refine mr_ialdN (v := nI (c s0)) C0 hM hMo.2.1.1 hMo.2.1.2 (by decide) (by omega) hw3.1 dX4_stream_109 ?_
  refine mr_ne0N (x := (c s0)) (tgt := 118) C0 dX4_stream_110 (by decide) (by omega) (fun c4 => ?_) (fun c4 => ?_)
  · skip
    refine lv_iload_n hx hb dX4_stream_118 rfl (lv_at hl 2 rfl) ?_
    refine lv_iconst (v := nI 5) hx hb dX4_stream_119 (by decide) ?_
    refine mr_neN (x := 6) (y := 5) (tgt := 139) C0 dX4_stream_120 (by decide) (by decide) (by decide) (fun _ => ?_) (fun c5 => absurd c5 (by decide))
    refine lv_iload_n hx hb dX4_stream_139 rfl (lv_at hl 2 rfl) ?_
    refine lv_bipush (v := nI 6) hx hb dX4_stream_140 (by decide) ?_
    refine mr_neN (x := 6) (y := 6) (tgt := 153) C0 dX4_stream_142 (by decide) (by decide) (by decide) (fun c6 => absurd c6 (by decide)) (fun _ => ?_)
    refine lv_aload_n hx hb dX4_stream_145 rfl (lv_at hl 0 rfl) ?_
    refine lv_iload_n hx hb dX4_stream_146 rfl (lv_at hl 1 rfl) ?_
    refine mr_callV (As := [.int (nI s0)]) C0 (ctX4_blocking_t (I := I) (J := J) (b := b) (s0 := s0) hMo hWm (by omega) (by omega)) (cwV 1 C0.1.2.2.2.2 gX4_stream_X4_blocking rfl rfl rfl (by decide +kernel) (by rw [hR]; exact ⟨Nat.le_of_ble_eq_true rfl, Nat.le_of_ble_eq_true rfl⟩)) hM hMo.1.1 hMo.1.2 rfl rfl hM hS rfl rfl rfl hl.1 (Nat.le_of_ble_eq_true rfl) dX4_stream_147 (by rw [hR]; exact ⟨Nat.zero_le _, Nat.zero_le _⟩) (fun H locs hM hS => ?_)
    refine lv_goto (tgt := 164) hx hb dX4_stream_150 (by decide) ?_
    have eF : ((fX4_blocking_t I b c e s0).1, (fX4_blocking_t I b c e s0).2) = fX4_stream_6 I b c e s0 := by unfold fX4_stream_6; rw [if_neg (Nat.ne_of_gt c4)]
    exact mr_iret (v := (fX4_blocking_t I b c e s0).1) C0 hr hlk hQ hS (by rw [← eF]) (by rw [← eF]; exact hM) (Nat.le_refl _) (Nat.le_refl _) dX4_stream_164
  · skip
    refine lv_bipush (v := (-9)) hx hb dX4_stream_113 (by decide) ?_
    refine lv_goto (tgt := 164) hx hb dX4_stream_115 (by decide) ?_
    have eF : ((-9), I) = fX4_stream_6 I b c e s0 := by unfold fX4_stream_6; rw [if_pos c4]
    exact mr_iret (v := (-9)) C0 hr hlk hQ hS (by rw [← eF]) (by rw [← eF]; exact hM) (Nat.le_refl _) (Nat.le_refl _) dX4_stream_164
set_option maxHeartbeats 4000000 in
set_option maxRecDepth 100000 in
theorem ctX4_stream_7n {l : Launch} {D : va_G} {T : Nat → ClassId} {L : List Nat} {A : Nat → Prop} {Sh : hm_S} {I : hm_I} {J : hm_J} {b : Nat} (hMo : IsM L Sh b) {c : Nat → Nat} {e : Nat → Nat → Nat} {ep lg : Nat} (hWm : WfM (I (b + 1)) c e ep lg) {s0 : Nat} (hs0 : s0 < 8) (hc0 : c s0 = 0) :
    Ct l yX4_stream wsX4_stream { frames := 2, cells := 0, slots := 0, locals := 42 } 0 0 D T A [.ref b, .int (nI s0), .int (nI 7)] (hm D T L A Sh I J) (some (.int (-9))) (hm D T L A Sh I J) := by
  refine Ct.ofW (cc := cX4_stream) (maxL := 3) (ret := (some .int)) (by decide) rfl (Nat.le_of_ble_eq_true rfl) ?_
  intro p_ e_ s_ m_ args_ below_ meth_ c_ ls R Qq hR hQ C0 hr hlk hname hM hl
  have hx := C0.1.1
  have hb := C0.1.2.1
  have hS : va_S A s_.heap s_.heap [] := va_S.rf
  have hl : lv_has ls 3 [(0, .ref b), (1, .int (nI s0)), (2, .int (nI 7))] := hl
  refine lv_iload_n hx hb dX4_stream_0 rfl (lv_at hl 1 rfl) ?_
  refine mr_callS (As := [.int (nI s0)]) C0 (isStreamM_t (I := I) (J := J) (s0 := s0) (by omega)) (va_cwS 1 C0.1.2.2.2.2 gX4_stream_X4_isStream rfl rfl rfl (by decide +kernel) (by rw [hR]; exact ⟨Nat.le_of_ble_eq_true rfl, Nat.le_of_ble_eq_true rfl⟩)) hM hS rfl rfl rfl hl.1 (Nat.le_of_ble_eq_true rfl) dX4_stream_1 (by rw [hR]; exact ⟨Nat.zero_le _, Nat.zero_le _⟩) (fun H locs hM hS => ?_)
  refine mr_eqB (tgt := 17) C0 dX4_stream_4 (by decide) (fun c1 => absurd c1 (by decide)) (fun _ => ?_)
  refine lv_iload_n hx hb dX4_stream_7 rfl (lv_at hl 2 rfl) ?_
  refine lv_iconst (v := nI 0) hx hb dX4_stream_8 (by decide) ?_
  refine lv_bipush (v := nI 7) hx hb dX4_stream_9 (by decide) ?_
  refine mr_callS (As := [.int (nI 7), .int (nI 0), .int (nI 7)]) C0 (ctX4_isIn (I := I) (J := J) (v := (nI 7)) (lo := (nI 0)) (up := (nI 7)) ) (va_cwS 3 C0.1.2.2.2.2 gX4_stream_X4_isIn rfl rfl rfl (by decide +kernel) (by rw [hR]; exact ⟨Nat.le_of_ble_eq_true rfl, Nat.le_of_ble_eq_true rfl⟩)) hM hS rfl rfl rfl hl.1 (Nat.le_of_ble_eq_true rfl) dX4_stream_11 (by rw [hR]; exact ⟨Nat.zero_le _, Nat.zero_le _⟩) (fun H locs hM hS => ?_)
  refine mr_neB (tgt := 19) C0 dX4_stream_14 (by decide) (fun c2 => ?_) (fun c2 => absurd c2 (by decide))
  refine lv_iload_n hx hb dX4_stream_19 rfl (lv_at hl 2 rfl) ?_
  refine lv_tableOut (tgt := 101) hx hb dX4_stream_20 (by decide) (by decide) ?_
  refine lv_aload_n hx hb dX4_stream_101 rfl (lv_at hl 0 rfl) ?_
  refine mr_getr (r := b + 1) (TT := TX4) (N := 10) C0 uX4_stream_X4 hM hMo.1.1 hMo.1.2 rfl 0 (by decide) rfl kX4_stream_f7 rfl dX4_stream_102 ?_
  refine lv_bipush (v := nI 24) hx hb dX4_stream_105 (by decide) ?_
  refine lv_iload_n hx hb dX4_stream_107 rfl (lv_at hl 1 rfl) ?_
  refine mr_iaddN (z := 24 + s0) C0 rfl dX4_stream_108 ?_
  have hw3 := hWm.1 s0 (by omega)
  have hw3b := hw3.2
  refine mr_ialdN (v := nI (c s0)) C0 hM hMo.2.1.1 hMo.2.1.2 (by decide) (by omega) hw3.1 dX4_stream_109 ?_
  refine mr_ne0N (x := (c s0)) (tgt := 118) C0 dX4_stream_110 (by decide) (by omega) (fun c4 => absurd c4 (by omega)) (fun c4 => ?_)
  refine lv_bipush (v := (-9)) hx hb dX4_stream_113 (by decide) ?_
  refine lv_goto (tgt := 164) hx hb dX4_stream_115 (by decide) ?_
  skip
  exact mr_iret (v := (-9)) C0 hr hlk hQ hS rfl hM (Nat.le_refl _) (Nat.le_refl _) dX4_stream_164
set_option maxHeartbeats 4000000 in
set_option maxRecDepth 100000 in
theorem ctX4_stream_7t {l : Launch} {D : va_G} {T : Nat → ClassId} {L : List Nat} {A : Nat → Prop} {Sh : hm_S} {I : hm_I} {J : hm_J} {b : Nat} (hMo : IsM L Sh b) {c : Nat → Nat} {e : Nat → Nat → Nat} {ep lg : Nat} (hWm : WfM (I (b + 1)) c e ep lg) {s0 m : Nat} (hs0 : s0 < 8) (hc0 : 0 < c s0) {Inv : Nat → hm_I → Prop} (hB : BefOk I b m (I (b + 1) (32 + 18 * s0 + 3 * 0 + 0)) Inv) :
    Ct l yX4_stream wsX4_stream { frames := 7, cells := 0, slots := 0, locals := 160 } 0 0 D T A [.ref b, .int (nI s0), .int (nI 7)] (hm D T L A Sh I J) (some (.int (nI m))) (hm D T L A Sh ((fX4_before_t I b m).2) J) := by
  refine Ct.ofW (cc := cX4_stream) (maxL := 3) (ret := (some .int)) (by decide) rfl (Nat.le_of_ble_eq_true rfl) ?_
  intro p_ e_ s_ m_ args_ below_ meth_ c_ ls R Qq hR hQ C0 hr hlk hname hM hl
  have hx := C0.1.1
  have hb := C0.1.2.1
  have hS : va_S A s_.heap s_.heap [] := va_S.rf
  have hl : lv_has ls 3 [(0, .ref b), (1, .int (nI s0)), (2, .int (nI 7))] := hl
  refine lv_iload_n hx hb dX4_stream_0 rfl (lv_at hl 1 rfl) ?_
  refine mr_callS (As := [.int (nI s0)]) C0 (isStreamM_t (I := I) (J := J) (s0 := s0) (by omega)) (va_cwS 1 C0.1.2.2.2.2 gX4_stream_X4_isStream rfl rfl rfl (by decide +kernel) (by rw [hR]; exact ⟨Nat.le_of_ble_eq_true rfl, Nat.le_of_ble_eq_true rfl⟩)) hM hS rfl rfl rfl hl.1 (Nat.le_of_ble_eq_true rfl) dX4_stream_1 (by rw [hR]; exact ⟨Nat.zero_le _, Nat.zero_le _⟩) (fun H locs hM hS => ?_)
  refine mr_eqB (tgt := 17) C0 dX4_stream_4 (by decide) (fun c1 => absurd c1 (by decide)) (fun _ => ?_)
  refine lv_iload_n hx hb dX4_stream_7 rfl (lv_at hl 2 rfl) ?_
  refine lv_iconst (v := nI 0) hx hb dX4_stream_8 (by decide) ?_
  refine lv_bipush (v := nI 7) hx hb dX4_stream_9 (by decide) ?_
  refine mr_callS (As := [.int (nI 7), .int (nI 0), .int (nI 7)]) C0 (ctX4_isIn (I := I) (J := J) (v := (nI 7)) (lo := (nI 0)) (up := (nI 7)) ) (va_cwS 3 C0.1.2.2.2.2 gX4_stream_X4_isIn rfl rfl rfl (by decide +kernel) (by rw [hR]; exact ⟨Nat.le_of_ble_eq_true rfl, Nat.le_of_ble_eq_true rfl⟩)) hM hS rfl rfl rfl hl.1 (Nat.le_of_ble_eq_true rfl) dX4_stream_11 (by rw [hR]; exact ⟨Nat.zero_le _, Nat.zero_le _⟩) (fun H locs hM hS => ?_)
  refine mr_neB (tgt := 19) C0 dX4_stream_14 (by decide) (fun c2 => ?_) (fun c2 => absurd c2 (by decide))
  refine lv_iload_n hx hb dX4_stream_19 rfl (lv_at hl 2 rfl) ?_
  refine lv_tableOut (tgt := 101) hx hb dX4_stream_20 (by decide) (by decide) ?_
  refine lv_aload_n hx hb dX4_stream_101 rfl (lv_at hl 0 rfl) ?_
  refine mr_getr (r := b + 1) (TT := TX4) (N := 10) C0 uX4_stream_X4 hM hMo.1.1 hMo.1.2 rfl 0 (by decide) rfl kX4_stream_f7 rfl dX4_stream_102 ?_
  refine lv_bipush (v := nI 24) hx hb dX4_stream_105 (by decide) ?_
  refine lv_iload_n hx hb dX4_stream_107 rfl (lv_at hl 1 rfl) ?_
  refine mr_iaddN (z := 24 + s0) C0 rfl dX4_stream_108 ?_
  have hw3 := hWm.1 s0 (by omega)
  have hw3b := hw3.2
  refine mr_ialdN (v := nI (c s0)) C0 hM hMo.2.1.1 hMo.2.1.2 (by decide) (by omega) hw3.1 dX4_stream_109 ?_
  refine mr_ne0N (x := (c s0)) (tgt := 118) C0 dX4_stream_110 (by decide) (by omega) (fun c4 => ?_) (fun c4 => absurd c4 (by omega))
  refine lv_iload_n hx hb dX4_stream_118 rfl (lv_at hl 2 rfl) ?_
  refine lv_iconst (v := nI 5) hx hb dX4_stream_119 (by decide) ?_
  refine mr_neN (x := 7) (y := 5) (tgt := 139) C0 dX4_stream_120 (by decide) (by decide) (by decide) (fun _ => ?_) (fun c5 => absurd c5 (by decide))
  refine lv_iload_n hx hb dX4_stream_139 rfl (lv_at hl 2 rfl) ?_
  refine lv_bipush (v := nI 6) hx hb dX4_stream_140 (by decide) ?_
  refine mr_neN (x := 7) (y := 6) (tgt := 153) C0 dX4_stream_142 (by decide) (by decide) (by decide) (fun _ => ?_) (fun c6 => absurd c6 (by decide))
  refine lv_aload_n hx hb dX4_stream_153 rfl (lv_at hl 0 rfl) ?_
  refine lv_aload_n hx hb dX4_stream_154 rfl (lv_at hl 0 rfl) ?_
  refine lv_iload_n hx hb dX4_stream_155 rfl (lv_at hl 1 rfl) ?_
  refine lv_iconst (v := nI 0) hx hb dX4_stream_156 (by decide) ?_
  refine lv_iconst (v := nI 0) hx hb dX4_stream_157 (by decide) ?_
  refine mr_callV (As := [.int (nI s0), .int (nI 0), .int (nI 0)]) C0 (ctX4_frameAt_t (I := I) (J := J) (b := b) (s0 := s0) (k0 := 0) (w0 := 0) hMo (by omega)) (cwV 3 C0.1.2.2.2.2 gX4_stream_X4_frameAt rfl rfl rfl (by decide +kernel) (by rw [hR]; exact ⟨Nat.le_of_ble_eq_true rfl, Nat.le_of_ble_eq_true rfl⟩)) hM hMo.1.1 hMo.1.2 rfl rfl hM hS rfl rfl rfl hl.1 (Nat.le_of_ble_eq_true rfl) dX4_stream_158 (by rw [hR]; exact ⟨Nat.zero_le _, Nat.zero_le _⟩) (fun H locs hM hS => ?_)
  refine mr_callV (As := [.int (I (b + 1) (32 + 18 * s0 + 3 * 0 + 0))]) C0 (ctX4_before_t (I := I) (J := J) (b := b) (num := (I (b + 1) (32 + 18 * s0 + 3 * 0 + 0))) hMo hB) (cwV 1 C0.1.2.2.2.2 gX4_stream_X4_before rfl rfl rfl (by decide +kernel) (by rw [hR]; exact ⟨Nat.le_of_ble_eq_true rfl, Nat.le_of_ble_eq_true rfl⟩)) hM hMo.1.1 hMo.1.2 rfl rfl hM hS rfl rfl rfl hl.1 (Nat.le_of_ble_eq_true rfl) dX4_stream_161 (by rw [hR]; exact ⟨Nat.zero_le _, Nat.zero_le _⟩) (fun H locs hM hS => ?_)
  skip
  exact mr_iret (v := nI m) C0 hr hlk hQ hS rfl hM (Nat.le_refl _) (Nat.le_refl _) dX4_stream_164
set_option maxHeartbeats 4000000 in
set_option maxRecDepth 100000 in
theorem ctX4_frame_b {l : Launch} {D : va_G} {T : Nat → ClassId} {L : List Nat} {A : Nat → Prop} {Sh : hm_S} {I : hm_I} {J : hm_J} {b : Nat} (hMo : IsM L Sh b) {s0 k0 w0 : Int32} (hb0 : fX4_isStream s0 = true → ¬ k0 < 0 → fX4_isIn w0 (nI 0) (nI 3) = false) :
    Ct l yX4_frame wsX4_frame { frames := 2, cells := 0, slots := 0, locals := 42 } 0 0 D T A [.ref b, .int s0, .int k0, .int w0] (hm D T L A Sh I J) (some (.int (-1))) (hm D T L A Sh I J) := by
  refine Ct.ofW (cc := cX4_frame) (maxL := 4) (ret := (some .int)) (by decide) rfl (Nat.le_of_ble_eq_true rfl) ?_
  intro p_ e_ s_ m_ args_ below_ meth_ c_ ls R Qq hR hQ C0 hr hlk hname hM hl
  have hx := C0.1.1
  have hb := C0.1.2.1
  have hS : va_S A s_.heap s_.heap [] := va_S.rf
  have hl : lv_has ls 4 [(0, .ref b), (1, .int s0), (2, .int k0), (3, .int w0)] := hl
  refine lv_iload_n hx hb dX4_frame_0 rfl (lv_at hl 1 rfl) ?_
  refine mr_callS (As := [.int s0]) C0 (ctX4_isStream (I := I) (J := J) (s0 := s0) ) (va_cwS 1 C0.1.2.2.2.2 gX4_frame_X4_isStream rfl rfl rfl (by decide +kernel) (by rw [hR]; exact ⟨Nat.le_of_ble_eq_true rfl, Nat.le_of_ble_eq_true rfl⟩)) hM hS rfl rfl rfl hl.1 (Nat.le_of_ble_eq_true rfl) dX4_frame_1 (by rw [hR]; exact ⟨Nat.zero_le _, Nat.zero_le _⟩) (fun H locs hM hS => ?_)
  refine mr_eqB (tgt := 20) C0 dX4_frame_4 (by decide) (fun c1 => ?_) (fun c1 => ?_)
  · skip
    refine lv_iconst (v := (-1)) hx hb dX4_frame_20 (by decide) ?_
    skip
    exact mr_iret (v := (-1)) C0 hr hlk hQ hS rfl hM (Nat.le_refl _) (Nat.le_refl _) dX4_frame_21
  · skip
    refine lv_iload_n hx hb dX4_frame_7 rfl (lv_at hl 2 rfl) ?_
    refine lv_if_lt (tgt := 20) hx hb dX4_frame_8 (by decide) (fun c2 => ?_) (fun c2 => ?_)
    · skip
      refine lv_iconst (v := (-1)) hx hb dX4_frame_20 (by decide) ?_
      skip
      exact mr_iret (v := (-1)) C0 hr hlk hQ hS rfl hM (Nat.le_refl _) (Nat.le_refl _) dX4_frame_21
    · skip
      refine lv_iload_n hx hb dX4_frame_11 rfl (lv_at hl 3 rfl) ?_
      refine lv_iconst (v := nI 0) hx hb dX4_frame_12 (by decide) ?_
      refine lv_iconst (v := nI 3) hx hb dX4_frame_13 (by decide) ?_
      refine mr_callS (As := [.int w0, .int (nI 0), .int (nI 3)]) C0 (ctX4_isIn (I := I) (J := J) (v := w0) (lo := (nI 0)) (up := (nI 3)) ) (va_cwS 3 C0.1.2.2.2.2 gX4_frame_X4_isIn rfl rfl rfl (by decide +kernel) (by rw [hR]; exact ⟨Nat.le_of_ble_eq_true rfl, Nat.le_of_ble_eq_true rfl⟩)) hM hS rfl rfl rfl hl.1 (Nat.le_of_ble_eq_true rfl) dX4_frame_14 (by rw [hR]; exact ⟨Nat.zero_le _, Nat.zero_le _⟩) (fun H locs hM hS => ?_)
      refine mr_neB (tgt := 22) C0 dX4_frame_17 (by decide) (fun c3 => absurd (hb0 c1 c2) (by rw [c3]; decide)) (fun c3 => ?_)
      refine lv_iconst (v := (-1)) hx hb dX4_frame_20 (by decide) ?_
      skip
      exact mr_iret (v := (-1)) C0 hr hlk hQ hS rfl hM (Nat.le_refl _) (Nat.le_refl _) dX4_frame_21
set_option maxHeartbeats 4000000 in
set_option maxRecDepth 100000 in
theorem ctX4_frame_n {l : Launch} {D : va_G} {T : Nat → ClassId} {L : List Nat} {A : Nat → Prop} {Sh : hm_S} {I : hm_I} {J : hm_J} {b : Nat} (hMo : IsM L Sh b) {c : Nat → Nat} {e : Nat → Nat → Nat} {ep lg : Nat} (hWm : WfM (I (b + 1)) c e ep lg) {s0 k0 : Nat} {w0 : Int32} (hs0 : s0 < 8) (hk : k0 < 2 ^ 31) (hck : c s0 ≤ k0) (hw0 : fX4_isIn w0 (nI 0) (nI 3) = true) :
    Ct l yX4_frame wsX4_frame { frames := 2, cells := 0, slots := 0, locals := 42 } 0 0 D T A [.ref b, .int (nI s0), .int (nI k0), .int w0] (hm D T L A Sh I J) (some (.int (-9))) (hm D T L A Sh I J) := by
  refine Ct.ofW (cc := cX4_frame) (maxL := 4) (ret := (some .int)) (by decide) rfl (Nat.le_of_ble_eq_true rfl) ?_
  intro p_ e_ s_ m_ args_ below_ meth_ c_ ls R Qq hR hQ C0 hr hlk hname hM hl
  have hx := C0.1.1
  have hb := C0.1.2.1
  have hS : va_S A s_.heap s_.heap [] := va_S.rf
  have hl : lv_has ls 4 [(0, .ref b), (1, .int (nI s0)), (2, .int (nI k0)), (3, .int w0)] := hl
  refine lv_iload_n hx hb dX4_frame_0 rfl (lv_at hl 1 rfl) ?_
  refine mr_callS (As := [.int (nI s0)]) C0 (isStreamM_t (I := I) (J := J) (s0 := s0) (by omega)) (va_cwS 1 C0.1.2.2.2.2 gX4_frame_X4_isStream rfl rfl rfl (by decide +kernel) (by rw [hR]; exact ⟨Nat.le_of_ble_eq_true rfl, Nat.le_of_ble_eq_true rfl⟩)) hM hS rfl rfl rfl hl.1 (Nat.le_of_ble_eq_true rfl) dX4_frame_1 (by rw [hR]; exact ⟨Nat.zero_le _, Nat.zero_le _⟩) (fun H locs hM hS => ?_)
  refine mr_eqB (tgt := 20) C0 dX4_frame_4 (by decide) (fun c1 => absurd c1 (by decide)) (fun _ => ?_)
  refine lv_iload_n hx hb dX4_frame_7 rfl (lv_at hl 2 rfl) ?_
  refine lv_if_lt (tgt := 20) hx hb dX4_frame_8 (by decide) (fun c2 => absurd c2 (nI_pos (by omega))) (fun c2 => ?_)
  refine lv_iload_n hx hb dX4_frame_11 rfl (lv_at hl 3 rfl) ?_
  refine lv_iconst (v := nI 0) hx hb dX4_frame_12 (by decide) ?_
  refine lv_iconst (v := nI 3) hx hb dX4_frame_13 (by decide) ?_
  refine mr_callS (As := [.int w0, .int (nI 0), .int (nI 3)]) C0 (ctX4_isIn (I := I) (J := J) (v := w0) (lo := (nI 0)) (up := (nI 3)) ) (va_cwS 3 C0.1.2.2.2.2 gX4_frame_X4_isIn rfl rfl rfl (by decide +kernel) (by rw [hR]; exact ⟨Nat.le_of_ble_eq_true rfl, Nat.le_of_ble_eq_true rfl⟩)) hM hS rfl rfl rfl hl.1 (Nat.le_of_ble_eq_true rfl) dX4_frame_14 (by rw [hR]; exact ⟨Nat.zero_le _, Nat.zero_le _⟩) (fun H locs hM hS => ?_)
  refine mr_neB (tgt := 22) C0 dX4_frame_17 (by decide) (fun c3 => ?_) (fun c3 => absurd c3 (by rw [hw0]; decide))
  refine lv_iload_n hx hb dX4_frame_22 rfl (lv_at hl 2 rfl) ?_
  refine lv_aload_n hx hb dX4_frame_23 rfl (lv_at hl 0 rfl) ?_
  refine mr_getr (r := b + 1) (TT := TX4) (N := 10) C0 uX4_frame_X4 hM hMo.1.1 hMo.1.2 rfl 0 (by decide) rfl kX4_frame_f7 rfl dX4_frame_24 ?_
  refine lv_bipush (v := nI 24) hx hb dX4_frame_27 (by decide) ?_
  refine lv_iload_n hx hb dX4_frame_29 rfl (lv_at hl 1 rfl) ?_
  refine mr_iaddN (z := 24 + s0) C0 rfl dX4_frame_30 ?_
  have hw4 := hWm.1 s0 (by omega)
  have hw4b := hw4.2
  refine mr_ialdN (v := nI (c s0)) C0 hM hMo.2.1.1 hMo.2.1.2 (by decide) (by omega) hw4.1 dX4_frame_31 ?_
  refine mr_ltN (x := k0) (y := (c s0)) (tgt := 38) C0 dX4_frame_32 (by decide) (by omega) (by omega) (fun c5 => absurd c5 (by omega)) (fun c5 => ?_)
  refine lv_bipush (v := (-9)) hx hb dX4_frame_35 (by decide) ?_
  skip
  exact mr_iret (v := (-9)) C0 hr hlk hQ hS rfl hM (Nat.le_refl _) (Nat.le_refl _) dX4_frame_37
set_option maxHeartbeats 4000000 in
set_option maxRecDepth 100000 in
theorem ctX4_frame_0 {l : Launch} {D : va_G} {T : Nat → ClassId} {L : List Nat} {A : Nat → Prop} {Sh : hm_S} {I : hm_I} {J : hm_J} {b : Nat} (hMo : IsM L Sh b) {c : Nat → Nat} {e : Nat → Nat → Nat} {ep lg : Nat} (hWm : WfM (I (b + 1)) c e ep lg) {s0 k0 : Nat} (hs0 : s0 < 8) (hck : k0 < c s0) :
    Ct l yX4_frame wsX4_frame { frames := 2, cells := 0, slots := 0, locals := 42 } 0 0 D T A [.ref b, .int (nI s0), .int (nI k0), .int (nI 0)] (hm D T L A Sh I J) (some (.int (I (b + 1) (32 + 18 * s0 + 3 * k0 + 0)))) (hm D T L A Sh I J) := by
  refine Ct.ofW (cc := cX4_frame) (maxL := 4) (ret := (some .int)) (by decide) rfl (Nat.le_of_ble_eq_true rfl) ?_
  intro p_ e_ s_ m_ args_ below_ meth_ c_ ls R Qq hR hQ C0 hr hlk hname hM hl
  have hx := C0.1.1
  have hb := C0.1.2.1
  have hS : va_S A s_.heap s_.heap [] := va_S.rf
  have hl : lv_has ls 4 [(0, .ref b), (1, .int (nI s0)), (2, .int (nI k0)), (3, .int (nI 0))] := hl
  have hk7 := (hWm.1 s0 hs0).2
  refine lv_iload_n hx hb dX4_frame_0 rfl (lv_at hl 1 rfl) ?_
  refine mr_callS (As := [.int (nI s0)]) C0 (isStreamM_t (I := I) (J := J) (s0 := s0) (by omega)) (va_cwS 1 C0.1.2.2.2.2 gX4_frame_X4_isStream rfl rfl rfl (by decide +kernel) (by rw [hR]; exact ⟨Nat.le_of_ble_eq_true rfl, Nat.le_of_ble_eq_true rfl⟩)) hM hS rfl rfl rfl hl.1 (Nat.le_of_ble_eq_true rfl) dX4_frame_1 (by rw [hR]; exact ⟨Nat.zero_le _, Nat.zero_le _⟩) (fun H locs hM hS => ?_)
  refine mr_eqB (tgt := 20) C0 dX4_frame_4 (by decide) (fun c1 => absurd c1 (by decide)) (fun _ => ?_)
  refine lv_iload_n hx hb dX4_frame_7 rfl (lv_at hl 2 rfl) ?_
  refine lv_if_lt (tgt := 20) hx hb dX4_frame_8 (by decide) (fun c2 => absurd c2 (nI_pos (by omega))) (fun c2 => ?_)
  refine lv_iload_n hx hb dX4_frame_11 rfl (lv_at hl 3 rfl) ?_
  refine lv_iconst (v := nI 0) hx hb dX4_frame_12 (by decide) ?_
  refine lv_iconst (v := nI 3) hx hb dX4_frame_13 (by decide) ?_
  refine mr_callS (As := [.int (nI 0), .int (nI 0), .int (nI 3)]) C0 (ctX4_isIn (I := I) (J := J) (v := (nI 0)) (lo := (nI 0)) (up := (nI 3)) ) (va_cwS 3 C0.1.2.2.2.2 gX4_frame_X4_isIn rfl rfl rfl (by decide +kernel) (by rw [hR]; exact ⟨Nat.le_of_ble_eq_true rfl, Nat.le_of_ble_eq_true rfl⟩)) hM hS rfl rfl rfl hl.1 (Nat.le_of_ble_eq_true rfl) dX4_frame_14 (by rw [hR]; exact ⟨Nat.zero_le _, Nat.zero_le _⟩) (fun H locs hM hS => ?_)
  refine mr_neB (tgt := 22) C0 dX4_frame_17 (by decide) (fun c3 => ?_) (fun c3 => absurd c3 (by decide))
  refine lv_iload_n hx hb dX4_frame_22 rfl (lv_at hl 2 rfl) ?_
  refine lv_aload_n hx hb dX4_frame_23 rfl (lv_at hl 0 rfl) ?_
  refine mr_getr (r := b + 1) (TT := TX4) (N := 10) C0 uX4_frame_X4 hM hMo.1.1 hMo.1.2 rfl 0 (by decide) rfl kX4_frame_f7 rfl dX4_frame_24 ?_
  refine lv_bipush (v := nI 24) hx hb dX4_frame_27 (by decide) ?_
  refine lv_iload_n hx hb dX4_frame_29 rfl (lv_at hl 1 rfl) ?_
  refine mr_iaddN (z := 24 + s0) C0 rfl dX4_frame_30 ?_
  have hw4 := hWm.1 s0 (by omega)
  have hw4b := hw4.2
  refine mr_ialdN (v := nI (c s0)) C0 hM hMo.2.1.1 hMo.2.1.2 (by decide) (by omega) hw4.1 dX4_frame_31 ?_
  refine mr_ltN (x := k0) (y := (c s0)) (tgt := 38) C0 dX4_frame_32 (by decide) (by omega) (by omega) (fun c5 => ?_) (fun c5 => absurd c5 (by omega))
  refine lv_iload_n hx hb dX4_frame_38 rfl (lv_at hl 3 rfl) ?_
  refine lv_iconst (v := nI 3) hx hb dX4_frame_39 (by decide) ?_
  refine mr_geN (x := 0) (y := 3) (tgt := 53) C0 dX4_frame_40 (by decide) (by decide) (by decide) (fun c6 => absurd c6 (by decide)) (fun _ => ?_)
  refine lv_aload_n hx hb dX4_frame_43 rfl (lv_at hl 0 rfl) ?_
  refine lv_iload_n hx hb dX4_frame_44 rfl (lv_at hl 1 rfl) ?_
  refine lv_iload_n hx hb dX4_frame_45 rfl (lv_at hl 2 rfl) ?_
  refine lv_iload_n hx hb dX4_frame_46 rfl (lv_at hl 3 rfl) ?_
  refine mr_callV (As := [.int (nI s0), .int (nI k0), .int (nI 0)]) C0 (ctX4_frameAt_t (I := I) (J := J) (b := b) (s0 := s0) (k0 := k0) (w0 := 0) hMo (by omega)) (cwV 3 C0.1.2.2.2.2 gX4_frame_X4_frameAt rfl rfl rfl (by decide +kernel) (by rw [hR]; exact ⟨Nat.le_of_ble_eq_true rfl, Nat.le_of_ble_eq_true rfl⟩)) hM hMo.1.1 hMo.1.2 rfl rfl hM hS rfl rfl rfl hl.1 (Nat.le_of_ble_eq_true rfl) dX4_frame_47 (by rw [hR]; exact ⟨Nat.zero_le _, Nat.zero_le _⟩) (fun H locs hM hS => ?_)
  refine lv_goto (tgt := 64) hx hb dX4_frame_50 (by decide) ?_
  skip
  exact mr_iret (v := I (b + 1) (32 + 18 * s0 + 3 * k0 + 0)) C0 hr hlk hQ hS rfl hM (Nat.le_refl _) (Nat.le_refl _) dX4_frame_64
set_option maxHeartbeats 4000000 in
set_option maxRecDepth 100000 in
theorem ctX4_frame_1 {l : Launch} {D : va_G} {T : Nat → ClassId} {L : List Nat} {A : Nat → Prop} {Sh : hm_S} {I : hm_I} {J : hm_J} {b : Nat} (hMo : IsM L Sh b) {c : Nat → Nat} {e : Nat → Nat → Nat} {ep lg : Nat} (hWm : WfM (I (b + 1)) c e ep lg) {s0 k0 : Nat} (hs0 : s0 < 8) (hck : k0 < c s0) :
    Ct l yX4_frame wsX4_frame { frames := 2, cells := 0, slots := 0, locals := 42 } 0 0 D T A [.ref b, .int (nI s0), .int (nI k0), .int (nI 1)] (hm D T L A Sh I J) (some (.int (I (b + 1) (32 + 18 * s0 + 3 * k0 + 1)))) (hm D T L A Sh I J) := by
  refine Ct.ofW (cc := cX4_frame) (maxL := 4) (ret := (some .int)) (by decide) rfl (Nat.le_of_ble_eq_true rfl) ?_
  intro p_ e_ s_ m_ args_ below_ meth_ c_ ls R Qq hR hQ C0 hr hlk hname hM hl
  have hx := C0.1.1
  have hb := C0.1.2.1
  have hS : va_S A s_.heap s_.heap [] := va_S.rf
  have hl : lv_has ls 4 [(0, .ref b), (1, .int (nI s0)), (2, .int (nI k0)), (3, .int (nI 1))] := hl
  have hk7 := (hWm.1 s0 hs0).2
  refine lv_iload_n hx hb dX4_frame_0 rfl (lv_at hl 1 rfl) ?_
  refine mr_callS (As := [.int (nI s0)]) C0 (isStreamM_t (I := I) (J := J) (s0 := s0) (by omega)) (va_cwS 1 C0.1.2.2.2.2 gX4_frame_X4_isStream rfl rfl rfl (by decide +kernel) (by rw [hR]; exact ⟨Nat.le_of_ble_eq_true rfl, Nat.le_of_ble_eq_true rfl⟩)) hM hS rfl rfl rfl hl.1 (Nat.le_of_ble_eq_true rfl) dX4_frame_1 (by rw [hR]; exact ⟨Nat.zero_le _, Nat.zero_le _⟩) (fun H locs hM hS => ?_)
  refine mr_eqB (tgt := 20) C0 dX4_frame_4 (by decide) (fun c1 => absurd c1 (by decide)) (fun _ => ?_)
  refine lv_iload_n hx hb dX4_frame_7 rfl (lv_at hl 2 rfl) ?_
  refine lv_if_lt (tgt := 20) hx hb dX4_frame_8 (by decide) (fun c2 => absurd c2 (nI_pos (by omega))) (fun c2 => ?_)
  refine lv_iload_n hx hb dX4_frame_11 rfl (lv_at hl 3 rfl) ?_
  refine lv_iconst (v := nI 0) hx hb dX4_frame_12 (by decide) ?_
  refine lv_iconst (v := nI 3) hx hb dX4_frame_13 (by decide) ?_
  refine mr_callS (As := [.int (nI 1), .int (nI 0), .int (nI 3)]) C0 (ctX4_isIn (I := I) (J := J) (v := (nI 1)) (lo := (nI 0)) (up := (nI 3)) ) (va_cwS 3 C0.1.2.2.2.2 gX4_frame_X4_isIn rfl rfl rfl (by decide +kernel) (by rw [hR]; exact ⟨Nat.le_of_ble_eq_true rfl, Nat.le_of_ble_eq_true rfl⟩)) hM hS rfl rfl rfl hl.1 (Nat.le_of_ble_eq_true rfl) dX4_frame_14 (by rw [hR]; exact ⟨Nat.zero_le _, Nat.zero_le _⟩) (fun H locs hM hS => ?_)
  refine mr_neB (tgt := 22) C0 dX4_frame_17 (by decide) (fun c3 => ?_) (fun c3 => absurd c3 (by decide))
  refine lv_iload_n hx hb dX4_frame_22 rfl (lv_at hl 2 rfl) ?_
  refine lv_aload_n hx hb dX4_frame_23 rfl (lv_at hl 0 rfl) ?_
  refine mr_getr (r := b + 1) (TT := TX4) (N := 10) C0 uX4_frame_X4 hM hMo.1.1 hMo.1.2 rfl 0 (by decide) rfl kX4_frame_f7 rfl dX4_frame_24 ?_
  refine lv_bipush (v := nI 24) hx hb dX4_frame_27 (by decide) ?_
  refine lv_iload_n hx hb dX4_frame_29 rfl (lv_at hl 1 rfl) ?_
  refine mr_iaddN (z := 24 + s0) C0 rfl dX4_frame_30 ?_
  have hw4 := hWm.1 s0 (by omega)
  have hw4b := hw4.2
  refine mr_ialdN (v := nI (c s0)) C0 hM hMo.2.1.1 hMo.2.1.2 (by decide) (by omega) hw4.1 dX4_frame_31 ?_
  refine mr_ltN (x := k0) (y := (c s0)) (tgt := 38) C0 dX4_frame_32 (by decide) (by omega) (by omega) (fun c5 => ?_) (fun c5 => absurd c5 (by omega))
  refine lv_iload_n hx hb dX4_frame_38 rfl (lv_at hl 3 rfl) ?_
  refine lv_iconst (v := nI 3) hx hb dX4_frame_39 (by decide) ?_
  refine mr_geN (x := 1) (y := 3) (tgt := 53) C0 dX4_frame_40 (by decide) (by decide) (by decide) (fun c6 => absurd c6 (by decide)) (fun _ => ?_)
  refine lv_aload_n hx hb dX4_frame_43 rfl (lv_at hl 0 rfl) ?_
  refine lv_iload_n hx hb dX4_frame_44 rfl (lv_at hl 1 rfl) ?_
  refine lv_iload_n hx hb dX4_frame_45 rfl (lv_at hl 2 rfl) ?_
  refine lv_iload_n hx hb dX4_frame_46 rfl (lv_at hl 3 rfl) ?_
  refine mr_callV (As := [.int (nI s0), .int (nI k0), .int (nI 1)]) C0 (ctX4_frameAt_t (I := I) (J := J) (b := b) (s0 := s0) (k0 := k0) (w0 := 1) hMo (by omega)) (cwV 3 C0.1.2.2.2.2 gX4_frame_X4_frameAt rfl rfl rfl (by decide +kernel) (by rw [hR]; exact ⟨Nat.le_of_ble_eq_true rfl, Nat.le_of_ble_eq_true rfl⟩)) hM hMo.1.1 hMo.1.2 rfl rfl hM hS rfl rfl rfl hl.1 (Nat.le_of_ble_eq_true rfl) dX4_frame_47 (by rw [hR]; exact ⟨Nat.zero_le _, Nat.zero_le _⟩) (fun H locs hM hS => ?_)
  refine lv_goto (tgt := 64) hx hb dX4_frame_50 (by decide) ?_
  skip
  exact mr_iret (v := I (b + 1) (32 + 18 * s0 + 3 * k0 + 1)) C0 hr hlk hQ hS rfl hM (Nat.le_refl _) (Nat.le_refl _) dX4_frame_64
set_option maxHeartbeats 4000000 in
set_option maxRecDepth 100000 in
theorem ctX4_frame_2 {l : Launch} {D : va_G} {T : Nat → ClassId} {L : List Nat} {A : Nat → Prop} {Sh : hm_S} {I : hm_I} {J : hm_J} {b : Nat} (hMo : IsM L Sh b) {c : Nat → Nat} {e : Nat → Nat → Nat} {ep lg : Nat} (hWm : WfM (I (b + 1)) c e ep lg) {s0 k0 : Nat} (hs0 : s0 < 8) (hck : k0 < c s0) :
    Ct l yX4_frame wsX4_frame { frames := 2, cells := 0, slots := 0, locals := 42 } 0 0 D T A [.ref b, .int (nI s0), .int (nI k0), .int (nI 2)] (hm D T L A Sh I J) (some (.int (I (b + 1) (32 + 18 * s0 + 3 * k0 + 2)))) (hm D T L A Sh I J) := by
  refine Ct.ofW (cc := cX4_frame) (maxL := 4) (ret := (some .int)) (by decide) rfl (Nat.le_of_ble_eq_true rfl) ?_
  intro p_ e_ s_ m_ args_ below_ meth_ c_ ls R Qq hR hQ C0 hr hlk hname hM hl
  have hx := C0.1.1
  have hb := C0.1.2.1
  have hS : va_S A s_.heap s_.heap [] := va_S.rf
  have hl : lv_has ls 4 [(0, .ref b), (1, .int (nI s0)), (2, .int (nI k0)), (3, .int (nI 2))] := hl
  have hk7 := (hWm.1 s0 hs0).2
  refine lv_iload_n hx hb dX4_frame_0 rfl (lv_at hl 1 rfl) ?_
  refine mr_callS (As := [.int (nI s0)]) C0 (isStreamM_t (I := I) (J := J) (s0 := s0) (by omega)) (va_cwS 1 C0.1.2.2.2.2 gX4_frame_X4_isStream rfl rfl rfl (by decide +kernel) (by rw [hR]; exact ⟨Nat.le_of_ble_eq_true rfl, Nat.le_of_ble_eq_true rfl⟩)) hM hS rfl rfl rfl hl.1 (Nat.le_of_ble_eq_true rfl) dX4_frame_1 (by rw [hR]; exact ⟨Nat.zero_le _, Nat.zero_le _⟩) (fun H locs hM hS => ?_)
  refine mr_eqB (tgt := 20) C0 dX4_frame_4 (by decide) (fun c1 => absurd c1 (by decide)) (fun _ => ?_)
  refine lv_iload_n hx hb dX4_frame_7 rfl (lv_at hl 2 rfl) ?_
  refine lv_if_lt (tgt := 20) hx hb dX4_frame_8 (by decide) (fun c2 => absurd c2 (nI_pos (by omega))) (fun c2 => ?_)
  refine lv_iload_n hx hb dX4_frame_11 rfl (lv_at hl 3 rfl) ?_
  refine lv_iconst (v := nI 0) hx hb dX4_frame_12 (by decide) ?_
  refine lv_iconst (v := nI 3) hx hb dX4_frame_13 (by decide) ?_
  refine mr_callS (As := [.int (nI 2), .int (nI 0), .int (nI 3)]) C0 (ctX4_isIn (I := I) (J := J) (v := (nI 2)) (lo := (nI 0)) (up := (nI 3)) ) (va_cwS 3 C0.1.2.2.2.2 gX4_frame_X4_isIn rfl rfl rfl (by decide +kernel) (by rw [hR]; exact ⟨Nat.le_of_ble_eq_true rfl, Nat.le_of_ble_eq_true rfl⟩)) hM hS rfl rfl rfl hl.1 (Nat.le_of_ble_eq_true rfl) dX4_frame_14 (by rw [hR]; exact ⟨Nat.zero_le _, Nat.zero_le _⟩) (fun H locs hM hS => ?_)
  refine mr_neB (tgt := 22) C0 dX4_frame_17 (by decide) (fun c3 => ?_) (fun c3 => absurd c3 (by decide))
  refine lv_iload_n hx hb dX4_frame_22 rfl (lv_at hl 2 rfl) ?_
  refine lv_aload_n hx hb dX4_frame_23 rfl (lv_at hl 0 rfl) ?_
  refine mr_getr (r := b + 1) (TT := TX4) (N := 10) C0 uX4_frame_X4 hM hMo.1.1 hMo.1.2 rfl 0 (by decide) rfl kX4_frame_f7 rfl dX4_frame_24 ?_
  refine lv_bipush (v := nI 24) hx hb dX4_frame_27 (by decide) ?_
  refine lv_iload_n hx hb dX4_frame_29 rfl (lv_at hl 1 rfl) ?_
  refine mr_iaddN (z := 24 + s0) C0 rfl dX4_frame_30 ?_
  have hw4 := hWm.1 s0 (by omega)
  have hw4b := hw4.2
  refine mr_ialdN (v := nI (c s0)) C0 hM hMo.2.1.1 hMo.2.1.2 (by decide) (by omega) hw4.1 dX4_frame_31 ?_
  refine mr_ltN (x := k0) (y := (c s0)) (tgt := 38) C0 dX4_frame_32 (by decide) (by omega) (by omega) (fun c5 => ?_) (fun c5 => absurd c5 (by omega))
  refine lv_iload_n hx hb dX4_frame_38 rfl (lv_at hl 3 rfl) ?_
  refine lv_iconst (v := nI 3) hx hb dX4_frame_39 (by decide) ?_
  refine mr_geN (x := 2) (y := 3) (tgt := 53) C0 dX4_frame_40 (by decide) (by decide) (by decide) (fun c6 => absurd c6 (by decide)) (fun _ => ?_)
  refine lv_aload_n hx hb dX4_frame_43 rfl (lv_at hl 0 rfl) ?_
  refine lv_iload_n hx hb dX4_frame_44 rfl (lv_at hl 1 rfl) ?_
  refine lv_iload_n hx hb dX4_frame_45 rfl (lv_at hl 2 rfl) ?_
  refine lv_iload_n hx hb dX4_frame_46 rfl (lv_at hl 3 rfl) ?_
  refine mr_callV (As := [.int (nI s0), .int (nI k0), .int (nI 2)]) C0 (ctX4_frameAt_t (I := I) (J := J) (b := b) (s0 := s0) (k0 := k0) (w0 := 2) hMo (by omega)) (cwV 3 C0.1.2.2.2.2 gX4_frame_X4_frameAt rfl rfl rfl (by decide +kernel) (by rw [hR]; exact ⟨Nat.le_of_ble_eq_true rfl, Nat.le_of_ble_eq_true rfl⟩)) hM hMo.1.1 hMo.1.2 rfl rfl hM hS rfl rfl rfl hl.1 (Nat.le_of_ble_eq_true rfl) dX4_frame_47 (by rw [hR]; exact ⟨Nat.zero_le _, Nat.zero_le _⟩) (fun H locs hM hS => ?_)
  refine lv_goto (tgt := 64) hx hb dX4_frame_50 (by decide) ?_
  skip
  exact mr_iret (v := I (b + 1) (32 + 18 * s0 + 3 * k0 + 2)) C0 hr hlk hQ hS rfl hM (Nat.le_refl _) (Nat.le_refl _) dX4_frame_64
set_option maxHeartbeats 4000000 in
set_option maxRecDepth 100000 in
theorem ctX4_frame_3 {l : Launch} {D : va_G} {T : Nat → ClassId} {L : List Nat} {A : Nat → Prop} {Sh : hm_S} {I : hm_I} {J : hm_J} {b : Nat} (hMo : IsM L Sh b) {c : Nat → Nat} {e : Nat → Nat → Nat} {ep lg : Nat} (hWm : WfM (I (b + 1)) c e ep lg) {s0 k0 m : Nat} (hs0 : s0 < 8) (hck : k0 < c s0) {Inv : Nat → hm_I → Prop} (hB : BefOk I b m (I (b + 1) (32 + 18 * s0 + 3 * k0 + 0)) Inv) :
    Ct l yX4_frame wsX4_frame { frames := 7, cells := 0, slots := 0, locals := 160 } 0 0 D T A [.ref b, .int (nI s0), .int (nI k0), .int (nI 3)] (hm D T L A Sh I J) (some (.int (nI m))) (hm D T L A Sh ((fX4_before_t I b m).2) J) := by
  refine Ct.ofW (cc := cX4_frame) (maxL := 4) (ret := (some .int)) (by decide) rfl (Nat.le_of_ble_eq_true rfl) ?_
  intro p_ e_ s_ m_ args_ below_ meth_ c_ ls R Qq hR hQ C0 hr hlk hname hM hl
  have hx := C0.1.1
  have hb := C0.1.2.1
  have hS : va_S A s_.heap s_.heap [] := va_S.rf
  have hl : lv_has ls 4 [(0, .ref b), (1, .int (nI s0)), (2, .int (nI k0)), (3, .int (nI 3))] := hl
  have hk7 := (hWm.1 s0 hs0).2
  refine lv_iload_n hx hb dX4_frame_0 rfl (lv_at hl 1 rfl) ?_
  refine mr_callS (As := [.int (nI s0)]) C0 (isStreamM_t (I := I) (J := J) (s0 := s0) (by omega)) (va_cwS 1 C0.1.2.2.2.2 gX4_frame_X4_isStream rfl rfl rfl (by decide +kernel) (by rw [hR]; exact ⟨Nat.le_of_ble_eq_true rfl, Nat.le_of_ble_eq_true rfl⟩)) hM hS rfl rfl rfl hl.1 (Nat.le_of_ble_eq_true rfl) dX4_frame_1 (by rw [hR]; exact ⟨Nat.zero_le _, Nat.zero_le _⟩) (fun H locs hM hS => ?_)
  refine mr_eqB (tgt := 20) C0 dX4_frame_4 (by decide) (fun c1 => absurd c1 (by decide)) (fun _ => ?_)
  refine lv_iload_n hx hb dX4_frame_7 rfl (lv_at hl 2 rfl) ?_
  refine lv_if_lt (tgt := 20) hx hb dX4_frame_8 (by decide) (fun c2 => absurd c2 (nI_pos (by omega))) (fun c2 => ?_)
  refine lv_iload_n hx hb dX4_frame_11 rfl (lv_at hl 3 rfl) ?_
  refine lv_iconst (v := nI 0) hx hb dX4_frame_12 (by decide) ?_
  refine lv_iconst (v := nI 3) hx hb dX4_frame_13 (by decide) ?_
  refine mr_callS (As := [.int (nI 3), .int (nI 0), .int (nI 3)]) C0 (ctX4_isIn (I := I) (J := J) (v := (nI 3)) (lo := (nI 0)) (up := (nI 3)) ) (va_cwS 3 C0.1.2.2.2.2 gX4_frame_X4_isIn rfl rfl rfl (by decide +kernel) (by rw [hR]; exact ⟨Nat.le_of_ble_eq_true rfl, Nat.le_of_ble_eq_true rfl⟩)) hM hS rfl rfl rfl hl.1 (Nat.le_of_ble_eq_true rfl) dX4_frame_14 (by rw [hR]; exact ⟨Nat.zero_le _, Nat.zero_le _⟩) (fun H locs hM hS => ?_)
  refine mr_neB (tgt := 22) C0 dX4_frame_17 (by decide) (fun c3 => ?_) (fun c3 => absurd c3 (by decide))
  refine lv_iload_n hx hb dX4_frame_22 rfl (lv_at hl 2 rfl) ?_
  refine lv_aload_n hx hb dX4_frame_23 rfl (lv_at hl 0 rfl) ?_
  refine mr_getr (r := b + 1) (TT := TX4) (N := 10) C0 uX4_frame_X4 hM hMo.1.1 hMo.1.2 rfl 0 (by decide) rfl kX4_frame_f7 rfl dX4_frame_24 ?_
  refine lv_bipush (v := nI 24) hx hb dX4_frame_27 (by decide) ?_
  refine lv_iload_n hx hb dX4_frame_29 rfl (lv_at hl 1 rfl) ?_
  refine mr_iaddN (z := 24 + s0) C0 rfl dX4_frame_30 ?_
  have hw4 := hWm.1 s0 (by omega)
  have hw4b := hw4.2
  refine mr_ialdN (v := nI (c s0)) C0 hM hMo.2.1.1 hMo.2.1.2 (by decide) (by omega) hw4.1 dX4_frame_31 ?_
  refine mr_ltN (x := k0) (y := (c s0)) (tgt := 38) C0 dX4_frame_32 (by decide) (by omega) (by omega) (fun c5 => ?_) (fun c5 => absurd c5 (by omega))
  refine lv_iload_n hx hb dX4_frame_38 rfl (lv_at hl 3 rfl) ?_
  refine lv_iconst (v := nI 3) hx hb dX4_frame_39 (by decide) ?_
  refine mr_geN (x := 3) (y := 3) (tgt := 53) C0 dX4_frame_40 (by decide) (by decide) (by decide) (fun _ => ?_) (fun c6 => absurd c6 (by decide))
  refine lv_aload_n hx hb dX4_frame_53 rfl (lv_at hl 0 rfl) ?_
  refine lv_aload_n hx hb dX4_frame_54 rfl (lv_at hl 0 rfl) ?_
  refine lv_iload_n hx hb dX4_frame_55 rfl (lv_at hl 1 rfl) ?_
  refine lv_iload_n hx hb dX4_frame_56 rfl (lv_at hl 2 rfl) ?_
  refine lv_iconst (v := nI 0) hx hb dX4_frame_57 (by decide) ?_
  refine mr_callV (As := [.int (nI s0), .int (nI k0), .int (nI 0)]) C0 (ctX4_frameAt_t (I := I) (J := J) (b := b) (s0 := s0) (k0 := k0) (w0 := 0) hMo (by omega)) (cwV 3 C0.1.2.2.2.2 gX4_frame_X4_frameAt rfl rfl rfl (by decide +kernel) (by rw [hR]; exact ⟨Nat.le_of_ble_eq_true rfl, Nat.le_of_ble_eq_true rfl⟩)) hM hMo.1.1 hMo.1.2 rfl rfl hM hS rfl rfl rfl hl.1 (Nat.le_of_ble_eq_true rfl) dX4_frame_58 (by rw [hR]; exact ⟨Nat.zero_le _, Nat.zero_le _⟩) (fun H locs hM hS => ?_)
  refine mr_callV (As := [.int (I (b + 1) (32 + 18 * s0 + 3 * k0 + 0))]) C0 (ctX4_before_t (I := I) (J := J) (b := b) (num := (I (b + 1) (32 + 18 * s0 + 3 * k0 + 0))) hMo hB) (cwV 1 C0.1.2.2.2.2 gX4_frame_X4_before rfl rfl rfl (by decide +kernel) (by rw [hR]; exact ⟨Nat.le_of_ble_eq_true rfl, Nat.le_of_ble_eq_true rfl⟩)) hM hMo.1.1 hMo.1.2 rfl rfl hM hS rfl rfl rfl hl.1 (Nat.le_of_ble_eq_true rfl) dX4_frame_61 (by rw [hR]; exact ⟨Nat.zero_le _, Nat.zero_le _⟩) (fun H locs hM hS => ?_)
  skip
  exact mr_iret (v := nI m) C0 hr hlk hQ hS rfl hM (Nat.le_refl _) (Nat.le_refl _) dX4_frame_64
set_option maxHeartbeats 4000000 in
set_option maxRecDepth 100000 in
theorem ctX4_log_b {l : Launch} {D : va_G} {T : Nat → ClassId} {L : List Nat} {A : Nat → Prop} {Sh : hm_S} {I : hm_I} {J : hm_J} {b : Nat} (hMo : IsM L Sh b) {c : Nat → Nat} {e : Nat → Nat → Nat} {ep lg : Nat} (hWm : WfM (I (b + 1)) c e ep lg) {k0 w0 : Int32} (hb0 : (fX4_isIn k0 (nI 0) (nI lg - nI 1) && fX4_isIn w0 (nI 0) (nI 3)) = false) :
    Ct l yX4_log wsX4_log { frames := 1, cells := 0, slots := 0, locals := 22 } 0 0 D T A [.ref b, .int k0, .int w0] (hm D T L A Sh I J) (some (.int (-1))) (hm D T L A Sh I J) := by
  refine Ct.ofW (cc := cX4_log) (maxL := 3) (ret := (some .int)) (by decide) rfl (Nat.le_of_ble_eq_true rfl) ?_
  intro p_ e_ s_ m_ args_ below_ meth_ c_ ls R Qq hR hQ C0 hr hlk hname hM hl
  have hx := C0.1.1
  have hb := C0.1.2.1
  have hS : va_S A s_.heap s_.heap [] := va_S.rf
  have hl : lv_has ls 3 [(0, .ref b), (1, .int k0), (2, .int w0)] := hl
  refine lv_iload_n hx hb dX4_log_0 rfl (lv_at hl 1 rfl) ?_
  refine lv_iconst (v := nI 0) hx hb dX4_log_1 (by decide) ?_
  refine lv_aload_n hx hb dX4_log_2 rfl (lv_at hl 0 rfl) ?_
  refine mr_getr (r := b + 1) (TT := TX4) (N := 10) C0 uX4_log_X4 hM hMo.1.1 hMo.1.2 rfl 0 (by decide) rfl kX4_log_f7 rfl dX4_log_3 ?_
  refine lv_sipush (v := nI 267) hx hb dX4_log_6 (by decide) ?_
  have hw1 := hWm.2.2.2.2.2
  refine mr_ialdN (v := nI lg) C0 hM hMo.2.1.1 hMo.2.1.2 (by decide) (by decide) hWm.2.2.2.2.1 dX4_log_9 ?_
  refine lv_iconst (v := nI 1) hx hb dX4_log_10 (by decide) ?_
  refine lv_isub hx hb dX4_log_11 ?_
  refine mr_callS (As := [.int k0, .int (nI 0), .int ((nI lg) - (nI 1))]) C0 (ctX4_isIn (I := I) (J := J) (v := k0) (lo := (nI 0)) (up := ((nI lg) - (nI 1))) ) (va_cwS 3 C0.1.2.2.2.2 gX4_log_X4_isIn rfl rfl rfl (by decide +kernel) (by rw [hR]; exact ⟨Nat.le_of_ble_eq_true rfl, Nat.le_of_ble_eq_true rfl⟩)) hM hS rfl rfl rfl hl.1 (Nat.le_of_ble_eq_true rfl) dX4_log_12 (by rw [hR]; exact ⟨Nat.zero_le _, Nat.zero_le _⟩) (fun H locs hM hS => ?_)
  refine mr_eqB (tgt := 44) C0 dX4_log_15 (by decide) (fun c2 => ?_) (fun c2 => ?_)
  · skip
    refine lv_iconst (v := (-1)) hx hb dX4_log_44 (by decide) ?_
    skip
    exact mr_iret (v := (-1)) C0 hr hlk hQ hS rfl hM (Nat.le_refl _) (Nat.le_refl _) dX4_log_45
  · skip
    refine lv_iload_n hx hb dX4_log_18 rfl (lv_at hl 2 rfl) ?_
    refine lv_iconst (v := nI 0) hx hb dX4_log_19 (by decide) ?_
    refine lv_iconst (v := nI 3) hx hb dX4_log_20 (by decide) ?_
    refine mr_callS (As := [.int w0, .int (nI 0), .int (nI 3)]) C0 (ctX4_isIn (I := I) (J := J) (v := w0) (lo := (nI 0)) (up := (nI 3)) ) (va_cwS 3 C0.1.2.2.2.2 gX4_log_X4_isIn rfl rfl rfl (by decide +kernel) (by rw [hR]; exact ⟨Nat.le_of_ble_eq_true rfl, Nat.le_of_ble_eq_true rfl⟩)) hM hS rfl rfl rfl hl.1 (Nat.le_of_ble_eq_true rfl) dX4_log_21 (by rw [hR]; exact ⟨Nat.zero_le _, Nat.zero_le _⟩) (fun H locs hM hS => ?_)
    refine mr_eqB (tgt := 44) C0 dX4_log_24 (by decide) (fun c3 => ?_) (fun c3 => absurd hb0 (by rw [c2, c3]; decide))
    refine lv_iconst (v := (-1)) hx hb dX4_log_44 (by decide) ?_
    skip
    exact mr_iret (v := (-1)) C0 hr hlk hQ hS rfl hM (Nat.le_refl _) (Nat.le_refl _) dX4_log_45
set_option maxHeartbeats 4000000 in
set_option maxRecDepth 100000 in
theorem ctX4_log_0 {l : Launch} {D : va_G} {T : Nat → ClassId} {L : List Nat} {A : Nat → Prop} {Sh : hm_S} {I : hm_I} {J : hm_J} {b : Nat} (hMo : IsM L Sh b) {c : Nat → Nat} {e : Nat → Nat → Nat} {ep lg : Nat} (hWm : WfM (I (b + 1)) c e ep lg) {k0 : Nat} (hkl : k0 < lg) (hb0 : fX4_isIn (nI k0) (nI 0) (nI lg - nI 1) = true) :
    Ct l yX4_log wsX4_log { frames := 1, cells := 0, slots := 0, locals := 22 } 0 0 D T A [.ref b, .int (nI k0), .int (nI 0)] (hm D T L A Sh I J) (some (.int (I (b + 1) (268 + 4 * k0 + 0)))) (hm D T L A Sh I J) := by
  refine Ct.ofW (cc := cX4_log) (maxL := 3) (ret := (some .int)) (by decide) rfl (Nat.le_of_ble_eq_true rfl) ?_
  intro p_ e_ s_ m_ args_ below_ meth_ c_ ls R Qq hR hQ C0 hr hlk hname hM hl
  have hx := C0.1.1
  have hb := C0.1.2.1
  have hS : va_S A s_.heap s_.heap [] := va_S.rf
  have hl : lv_has ls 3 [(0, .ref b), (1, .int (nI k0)), (2, .int (nI 0))] := hl
  have hl40 := hWm.2.2.2.2.2
  refine lv_iload_n hx hb dX4_log_0 rfl (lv_at hl 1 rfl) ?_
  refine lv_iconst (v := nI 0) hx hb dX4_log_1 (by decide) ?_
  refine lv_aload_n hx hb dX4_log_2 rfl (lv_at hl 0 rfl) ?_
  refine mr_getr (r := b + 1) (TT := TX4) (N := 10) C0 uX4_log_X4 hM hMo.1.1 hMo.1.2 rfl 0 (by decide) rfl kX4_log_f7 rfl dX4_log_3 ?_
  refine lv_sipush (v := nI 267) hx hb dX4_log_6 (by decide) ?_
  have hw1 := hWm.2.2.2.2.2
  refine mr_ialdN (v := nI lg) C0 hM hMo.2.1.1 hMo.2.1.2 (by decide) (by decide) hWm.2.2.2.2.1 dX4_log_9 ?_
  refine lv_iconst (v := nI 1) hx hb dX4_log_10 (by decide) ?_
  refine lv_isub hx hb dX4_log_11 ?_
  refine mr_callS (As := [.int (nI k0), .int (nI 0), .int ((nI lg) - (nI 1))]) C0 (ctX4_isIn (I := I) (J := J) (v := (nI k0)) (lo := (nI 0)) (up := ((nI lg) - (nI 1))) ) (va_cwS 3 C0.1.2.2.2.2 gX4_log_X4_isIn rfl rfl rfl (by decide +kernel) (by rw [hR]; exact ⟨Nat.le_of_ble_eq_true rfl, Nat.le_of_ble_eq_true rfl⟩)) hM hS rfl rfl rfl hl.1 (Nat.le_of_ble_eq_true rfl) dX4_log_12 (by rw [hR]; exact ⟨Nat.zero_le _, Nat.zero_le _⟩) (fun H locs hM hS => ?_)
  refine mr_eqB (tgt := 44) C0 dX4_log_15 (by decide) (fun c2 => absurd c2 (by rw [hb0]; decide)) (fun c2 => ?_)
  refine lv_iload_n hx hb dX4_log_18 rfl (lv_at hl 2 rfl) ?_
  refine lv_iconst (v := nI 0) hx hb dX4_log_19 (by decide) ?_
  refine lv_iconst (v := nI 3) hx hb dX4_log_20 (by decide) ?_
  refine mr_callS (As := [.int (nI 0), .int (nI 0), .int (nI 3)]) C0 (ctX4_isIn (I := I) (J := J) (v := (nI 0)) (lo := (nI 0)) (up := (nI 3)) ) (va_cwS 3 C0.1.2.2.2.2 gX4_log_X4_isIn rfl rfl rfl (by decide +kernel) (by rw [hR]; exact ⟨Nat.le_of_ble_eq_true rfl, Nat.le_of_ble_eq_true rfl⟩)) hM hS rfl rfl rfl hl.1 (Nat.le_of_ble_eq_true rfl) dX4_log_21 (by rw [hR]; exact ⟨Nat.zero_le _, Nat.zero_le _⟩) (fun H locs hM hS => ?_)
  refine mr_eqB (tgt := 44) C0 dX4_log_24 (by decide) (fun c3 => absurd c3 (by decide)) (fun c3 => ?_)
  refine lv_aload_n hx hb dX4_log_27 rfl (lv_at hl 0 rfl) ?_
  refine mr_getr (r := b + 1) (TT := TX4) (N := 10) C0 uX4_log_X4 hM hMo.1.1 hMo.1.2 rfl 0 (by decide) rfl kX4_log_f7 rfl dX4_log_28 ?_
  refine lv_sipush (v := nI 268) hx hb dX4_log_31 (by decide) ?_
  refine lv_iconst (v := nI 4) hx hb dX4_log_34 (by decide) ?_
  refine lv_iload_n hx hb dX4_log_35 rfl (lv_at hl 1 rfl) ?_
  refine mr_imulN (z := 4 * k0) C0 rfl dX4_log_36 ?_
  refine mr_iaddN (z := 268 + 4 * k0) C0 rfl dX4_log_37 ?_
  refine lv_iload_n hx hb dX4_log_38 rfl (lv_at hl 2 rfl) ?_
  refine mr_iaddN (z := 268 + 4 * k0 + 0) C0 rfl dX4_log_39 ?_
  refine mr_ialdN (v := I (b + 1) (268 + 4 * k0 + 0)) C0 hM hMo.2.1.1 hMo.2.1.2 (by decide) (by omega) rfl dX4_log_40 ?_
  refine lv_goto (tgt := 45) hx hb dX4_log_41 (by decide) ?_
  skip
  exact mr_iret (v := I (b + 1) (268 + 4 * k0 + 0)) C0 hr hlk hQ hS rfl hM (Nat.le_refl _) (Nat.le_refl _) dX4_log_45
set_option maxHeartbeats 4000000 in
set_option maxRecDepth 100000 in
theorem ctX4_log_1 {l : Launch} {D : va_G} {T : Nat → ClassId} {L : List Nat} {A : Nat → Prop} {Sh : hm_S} {I : hm_I} {J : hm_J} {b : Nat} (hMo : IsM L Sh b) {c : Nat → Nat} {e : Nat → Nat → Nat} {ep lg : Nat} (hWm : WfM (I (b + 1)) c e ep lg) {k0 : Nat} (hkl : k0 < lg) (hb0 : fX4_isIn (nI k0) (nI 0) (nI lg - nI 1) = true) :
    Ct l yX4_log wsX4_log { frames := 1, cells := 0, slots := 0, locals := 22 } 0 0 D T A [.ref b, .int (nI k0), .int (nI 1)] (hm D T L A Sh I J) (some (.int (I (b + 1) (268 + 4 * k0 + 1)))) (hm D T L A Sh I J) := by
  refine Ct.ofW (cc := cX4_log) (maxL := 3) (ret := (some .int)) (by decide) rfl (Nat.le_of_ble_eq_true rfl) ?_
  intro p_ e_ s_ m_ args_ below_ meth_ c_ ls R Qq hR hQ C0 hr hlk hname hM hl
  have hx := C0.1.1
  have hb := C0.1.2.1
  have hS : va_S A s_.heap s_.heap [] := va_S.rf
  have hl : lv_has ls 3 [(0, .ref b), (1, .int (nI k0)), (2, .int (nI 1))] := hl
  have hl40 := hWm.2.2.2.2.2
  refine lv_iload_n hx hb dX4_log_0 rfl (lv_at hl 1 rfl) ?_
  refine lv_iconst (v := nI 0) hx hb dX4_log_1 (by decide) ?_
  refine lv_aload_n hx hb dX4_log_2 rfl (lv_at hl 0 rfl) ?_
  refine mr_getr (r := b + 1) (TT := TX4) (N := 10) C0 uX4_log_X4 hM hMo.1.1 hMo.1.2 rfl 0 (by decide) rfl kX4_log_f7 rfl dX4_log_3 ?_
  refine lv_sipush (v := nI 267) hx hb dX4_log_6 (by decide) ?_
  have hw1 := hWm.2.2.2.2.2
  refine mr_ialdN (v := nI lg) C0 hM hMo.2.1.1 hMo.2.1.2 (by decide) (by decide) hWm.2.2.2.2.1 dX4_log_9 ?_
  refine lv_iconst (v := nI 1) hx hb dX4_log_10 (by decide) ?_
  refine lv_isub hx hb dX4_log_11 ?_
  refine mr_callS (As := [.int (nI k0), .int (nI 0), .int ((nI lg) - (nI 1))]) C0 (ctX4_isIn (I := I) (J := J) (v := (nI k0)) (lo := (nI 0)) (up := ((nI lg) - (nI 1))) ) (va_cwS 3 C0.1.2.2.2.2 gX4_log_X4_isIn rfl rfl rfl (by decide +kernel) (by rw [hR]; exact ⟨Nat.le_of_ble_eq_true rfl, Nat.le_of_ble_eq_true rfl⟩)) hM hS rfl rfl rfl hl.1 (Nat.le_of_ble_eq_true rfl) dX4_log_12 (by rw [hR]; exact ⟨Nat.zero_le _, Nat.zero_le _⟩) (fun H locs hM hS => ?_)
  refine mr_eqB (tgt := 44) C0 dX4_log_15 (by decide) (fun c2 => absurd c2 (by rw [hb0]; decide)) (fun c2 => ?_)
  refine lv_iload_n hx hb dX4_log_18 rfl (lv_at hl 2 rfl) ?_
  refine lv_iconst (v := nI 0) hx hb dX4_log_19 (by decide) ?_
  refine lv_iconst (v := nI 3) hx hb dX4_log_20 (by decide) ?_
  refine mr_callS (As := [.int (nI 1), .int (nI 0), .int (nI 3)]) C0 (ctX4_isIn (I := I) (J := J) (v := (nI 1)) (lo := (nI 0)) (up := (nI 3)) ) (va_cwS 3 C0.1.2.2.2.2 gX4_log_X4_isIn rfl rfl rfl (by decide +kernel) (by rw [hR]; exact ⟨Nat.le_of_ble_eq_true rfl, Nat.le_of_ble_eq_true rfl⟩)) hM hS rfl rfl rfl hl.1 (Nat.le_of_ble_eq_true rfl) dX4_log_21 (by rw [hR]; exact ⟨Nat.zero_le _, Nat.zero_le _⟩) (fun H locs hM hS => ?_)
  refine mr_eqB (tgt := 44) C0 dX4_log_24 (by decide) (fun c3 => absurd c3 (by decide)) (fun c3 => ?_)
  refine lv_aload_n hx hb dX4_log_27 rfl (lv_at hl 0 rfl) ?_
  refine mr_getr (r := b + 1) (TT := TX4) (N := 10) C0 uX4_log_X4 hM hMo.1.1 hMo.1.2 rfl 0 (by decide) rfl kX4_log_f7 rfl dX4_log_28 ?_
  refine lv_sipush (v := nI 268) hx hb dX4_log_31 (by decide) ?_
  refine lv_iconst (v := nI 4) hx hb dX4_log_34 (by decide) ?_
  refine lv_iload_n hx hb dX4_log_35 rfl (lv_at hl 1 rfl) ?_
  refine mr_imulN (z := 4 * k0) C0 rfl dX4_log_36 ?_
  refine mr_iaddN (z := 268 + 4 * k0) C0 rfl dX4_log_37 ?_
  refine lv_iload_n hx hb dX4_log_38 rfl (lv_at hl 2 rfl) ?_
  refine mr_iaddN (z := 268 + 4 * k0 + 1) C0 rfl dX4_log_39 ?_
  refine mr_ialdN (v := I (b + 1) (268 + 4 * k0 + 1)) C0 hM hMo.2.1.1 hMo.2.1.2 (by decide) (by omega) rfl dX4_log_40 ?_
  refine lv_goto (tgt := 45) hx hb dX4_log_41 (by decide) ?_
  skip
  exact mr_iret (v := I (b + 1) (268 + 4 * k0 + 1)) C0 hr hlk hQ hS rfl hM (Nat.le_refl _) (Nat.le_refl _) dX4_log_45
set_option maxHeartbeats 4000000 in
set_option maxRecDepth 100000 in
theorem ctX4_log_2 {l : Launch} {D : va_G} {T : Nat → ClassId} {L : List Nat} {A : Nat → Prop} {Sh : hm_S} {I : hm_I} {J : hm_J} {b : Nat} (hMo : IsM L Sh b) {c : Nat → Nat} {e : Nat → Nat → Nat} {ep lg : Nat} (hWm : WfM (I (b + 1)) c e ep lg) {k0 : Nat} (hkl : k0 < lg) (hb0 : fX4_isIn (nI k0) (nI 0) (nI lg - nI 1) = true) :
    Ct l yX4_log wsX4_log { frames := 1, cells := 0, slots := 0, locals := 22 } 0 0 D T A [.ref b, .int (nI k0), .int (nI 2)] (hm D T L A Sh I J) (some (.int (I (b + 1) (268 + 4 * k0 + 2)))) (hm D T L A Sh I J) := by
  refine Ct.ofW (cc := cX4_log) (maxL := 3) (ret := (some .int)) (by decide) rfl (Nat.le_of_ble_eq_true rfl) ?_
  intro p_ e_ s_ m_ args_ below_ meth_ c_ ls R Qq hR hQ C0 hr hlk hname hM hl
  have hx := C0.1.1
  have hb := C0.1.2.1
  have hS : va_S A s_.heap s_.heap [] := va_S.rf
  have hl : lv_has ls 3 [(0, .ref b), (1, .int (nI k0)), (2, .int (nI 2))] := hl
  have hl40 := hWm.2.2.2.2.2
  refine lv_iload_n hx hb dX4_log_0 rfl (lv_at hl 1 rfl) ?_
  refine lv_iconst (v := nI 0) hx hb dX4_log_1 (by decide) ?_
  refine lv_aload_n hx hb dX4_log_2 rfl (lv_at hl 0 rfl) ?_
  refine mr_getr (r := b + 1) (TT := TX4) (N := 10) C0 uX4_log_X4 hM hMo.1.1 hMo.1.2 rfl 0 (by decide) rfl kX4_log_f7 rfl dX4_log_3 ?_
  refine lv_sipush (v := nI 267) hx hb dX4_log_6 (by decide) ?_
  have hw1 := hWm.2.2.2.2.2
  refine mr_ialdN (v := nI lg) C0 hM hMo.2.1.1 hMo.2.1.2 (by decide) (by decide) hWm.2.2.2.2.1 dX4_log_9 ?_
  refine lv_iconst (v := nI 1) hx hb dX4_log_10 (by decide) ?_
  refine lv_isub hx hb dX4_log_11 ?_
  refine mr_callS (As := [.int (nI k0), .int (nI 0), .int ((nI lg) - (nI 1))]) C0 (ctX4_isIn (I := I) (J := J) (v := (nI k0)) (lo := (nI 0)) (up := ((nI lg) - (nI 1))) ) (va_cwS 3 C0.1.2.2.2.2 gX4_log_X4_isIn rfl rfl rfl (by decide +kernel) (by rw [hR]; exact ⟨Nat.le_of_ble_eq_true rfl, Nat.le_of_ble_eq_true rfl⟩)) hM hS rfl rfl rfl hl.1 (Nat.le_of_ble_eq_true rfl) dX4_log_12 (by rw [hR]; exact ⟨Nat.zero_le _, Nat.zero_le _⟩) (fun H locs hM hS => ?_)
  refine mr_eqB (tgt := 44) C0 dX4_log_15 (by decide) (fun c2 => absurd c2 (by rw [hb0]; decide)) (fun c2 => ?_)
  refine lv_iload_n hx hb dX4_log_18 rfl (lv_at hl 2 rfl) ?_
  refine lv_iconst (v := nI 0) hx hb dX4_log_19 (by decide) ?_
  refine lv_iconst (v := nI 3) hx hb dX4_log_20 (by decide) ?_
  refine mr_callS (As := [.int (nI 2), .int (nI 0), .int (nI 3)]) C0 (ctX4_isIn (I := I) (J := J) (v := (nI 2)) (lo := (nI 0)) (up := (nI 3)) ) (va_cwS 3 C0.1.2.2.2.2 gX4_log_X4_isIn rfl rfl rfl (by decide +kernel) (by rw [hR]; exact ⟨Nat.le_of_ble_eq_true rfl, Nat.le_of_ble_eq_true rfl⟩)) hM hS rfl rfl rfl hl.1 (Nat.le_of_ble_eq_true rfl) dX4_log_21 (by rw [hR]; exact ⟨Nat.zero_le _, Nat.zero_le _⟩) (fun H locs hM hS => ?_)
  refine mr_eqB (tgt := 44) C0 dX4_log_24 (by decide) (fun c3 => absurd c3 (by decide)) (fun c3 => ?_)
  refine lv_aload_n hx hb dX4_log_27 rfl (lv_at hl 0 rfl) ?_
  refine mr_getr (r := b + 1) (TT := TX4) (N := 10) C0 uX4_log_X4 hM hMo.1.1 hMo.1.2 rfl 0 (by decide) rfl kX4_log_f7 rfl dX4_log_28 ?_
  refine lv_sipush (v := nI 268) hx hb dX4_log_31 (by decide) ?_
  refine lv_iconst (v := nI 4) hx hb dX4_log_34 (by decide) ?_
  refine lv_iload_n hx hb dX4_log_35 rfl (lv_at hl 1 rfl) ?_
  refine mr_imulN (z := 4 * k0) C0 rfl dX4_log_36 ?_
  refine mr_iaddN (z := 268 + 4 * k0) C0 rfl dX4_log_37 ?_
  refine lv_iload_n hx hb dX4_log_38 rfl (lv_at hl 2 rfl) ?_
  refine mr_iaddN (z := 268 + 4 * k0 + 2) C0 rfl dX4_log_39 ?_
  refine mr_ialdN (v := I (b + 1) (268 + 4 * k0 + 2)) C0 hM hMo.2.1.1 hMo.2.1.2 (by decide) (by omega) rfl dX4_log_40 ?_
  refine lv_goto (tgt := 45) hx hb dX4_log_41 (by decide) ?_
  skip
  exact mr_iret (v := I (b + 1) (268 + 4 * k0 + 2)) C0 hr hlk hQ hS rfl hM (Nat.le_refl _) (Nat.le_refl _) dX4_log_45
set_option maxHeartbeats 4000000 in
set_option maxRecDepth 100000 in
theorem ctX4_log_3 {l : Launch} {D : va_G} {T : Nat → ClassId} {L : List Nat} {A : Nat → Prop} {Sh : hm_S} {I : hm_I} {J : hm_J} {b : Nat} (hMo : IsM L Sh b) {c : Nat → Nat} {e : Nat → Nat → Nat} {ep lg : Nat} (hWm : WfM (I (b + 1)) c e ep lg) {k0 : Nat} (hkl : k0 < lg) (hb0 : fX4_isIn (nI k0) (nI 0) (nI lg - nI 1) = true) :
    Ct l yX4_log wsX4_log { frames := 1, cells := 0, slots := 0, locals := 22 } 0 0 D T A [.ref b, .int (nI k0), .int (nI 3)] (hm D T L A Sh I J) (some (.int (I (b + 1) (268 + 4 * k0 + 3)))) (hm D T L A Sh I J) := by
  refine Ct.ofW (cc := cX4_log) (maxL := 3) (ret := (some .int)) (by decide) rfl (Nat.le_of_ble_eq_true rfl) ?_
  intro p_ e_ s_ m_ args_ below_ meth_ c_ ls R Qq hR hQ C0 hr hlk hname hM hl
  have hx := C0.1.1
  have hb := C0.1.2.1
  have hS : va_S A s_.heap s_.heap [] := va_S.rf
  have hl : lv_has ls 3 [(0, .ref b), (1, .int (nI k0)), (2, .int (nI 3))] := hl
  have hl40 := hWm.2.2.2.2.2
  refine lv_iload_n hx hb dX4_log_0 rfl (lv_at hl 1 rfl) ?_
  refine lv_iconst (v := nI 0) hx hb dX4_log_1 (by decide) ?_
  refine lv_aload_n hx hb dX4_log_2 rfl (lv_at hl 0 rfl) ?_
  refine mr_getr (r := b + 1) (TT := TX4) (N := 10) C0 uX4_log_X4 hM hMo.1.1 hMo.1.2 rfl 0 (by decide) rfl kX4_log_f7 rfl dX4_log_3 ?_
  refine lv_sipush (v := nI 267) hx hb dX4_log_6 (by decide) ?_
  have hw1 := hWm.2.2.2.2.2
  refine mr_ialdN (v := nI lg) C0 hM hMo.2.1.1 hMo.2.1.2 (by decide) (by decide) hWm.2.2.2.2.1 dX4_log_9 ?_
  refine lv_iconst (v := nI 1) hx hb dX4_log_10 (by decide) ?_
  refine lv_isub hx hb dX4_log_11 ?_
  refine mr_callS (As := [.int (nI k0), .int (nI 0), .int ((nI lg) - (nI 1))]) C0 (ctX4_isIn (I := I) (J := J) (v := (nI k0)) (lo := (nI 0)) (up := ((nI lg) - (nI 1))) ) (va_cwS 3 C0.1.2.2.2.2 gX4_log_X4_isIn rfl rfl rfl (by decide +kernel) (by rw [hR]; exact ⟨Nat.le_of_ble_eq_true rfl, Nat.le_of_ble_eq_true rfl⟩)) hM hS rfl rfl rfl hl.1 (Nat.le_of_ble_eq_true rfl) dX4_log_12 (by rw [hR]; exact ⟨Nat.zero_le _, Nat.zero_le _⟩) (fun H locs hM hS => ?_)
  refine mr_eqB (tgt := 44) C0 dX4_log_15 (by decide) (fun c2 => absurd c2 (by rw [hb0]; decide)) (fun c2 => ?_)
  refine lv_iload_n hx hb dX4_log_18 rfl (lv_at hl 2 rfl) ?_
  refine lv_iconst (v := nI 0) hx hb dX4_log_19 (by decide) ?_
  refine lv_iconst (v := nI 3) hx hb dX4_log_20 (by decide) ?_
  refine mr_callS (As := [.int (nI 3), .int (nI 0), .int (nI 3)]) C0 (ctX4_isIn (I := I) (J := J) (v := (nI 3)) (lo := (nI 0)) (up := (nI 3)) ) (va_cwS 3 C0.1.2.2.2.2 gX4_log_X4_isIn rfl rfl rfl (by decide +kernel) (by rw [hR]; exact ⟨Nat.le_of_ble_eq_true rfl, Nat.le_of_ble_eq_true rfl⟩)) hM hS rfl rfl rfl hl.1 (Nat.le_of_ble_eq_true rfl) dX4_log_21 (by rw [hR]; exact ⟨Nat.zero_le _, Nat.zero_le _⟩) (fun H locs hM hS => ?_)
  refine mr_eqB (tgt := 44) C0 dX4_log_24 (by decide) (fun c3 => absurd c3 (by decide)) (fun c3 => ?_)
  refine lv_aload_n hx hb dX4_log_27 rfl (lv_at hl 0 rfl) ?_
  refine mr_getr (r := b + 1) (TT := TX4) (N := 10) C0 uX4_log_X4 hM hMo.1.1 hMo.1.2 rfl 0 (by decide) rfl kX4_log_f7 rfl dX4_log_28 ?_
  refine lv_sipush (v := nI 268) hx hb dX4_log_31 (by decide) ?_
  refine lv_iconst (v := nI 4) hx hb dX4_log_34 (by decide) ?_
  refine lv_iload_n hx hb dX4_log_35 rfl (lv_at hl 1 rfl) ?_
  refine mr_imulN (z := 4 * k0) C0 rfl dX4_log_36 ?_
  refine mr_iaddN (z := 268 + 4 * k0) C0 rfl dX4_log_37 ?_
  refine lv_iload_n hx hb dX4_log_38 rfl (lv_at hl 2 rfl) ?_
  refine mr_iaddN (z := 268 + 4 * k0 + 3) C0 rfl dX4_log_39 ?_
  refine mr_ialdN (v := I (b + 1) (268 + 4 * k0 + 3)) C0 hM hMo.2.1.1 hMo.2.1.2 (by decide) (by omega) rfl dX4_log_40 ?_
  refine lv_goto (tgt := 45) hx hb dX4_log_41 (by decide) ?_
  skip
  exact mr_iret (v := I (b + 1) (268 + 4 * k0 + 3)) C0 hr hlk hQ hS rfl hM (Nat.le_refl _) (Nat.le_refl _) dX4_log_45
set_option maxHeartbeats 4000000 in
set_option maxRecDepth 100000 in
theorem ctX4_relation_b {l : Launch} {D : va_G} {T : Nat → ClassId} {L : List Nat} {A : Nat → Prop} {Sh : hm_S} {I : hm_I} {J : hm_J} {b : Nat} (hMo : IsM L Sh b) {e0 a0 b0 : Int32} (hb0 : fX4_isOrder I b e0 = true → fX4_isStream a0 = true → fX4_isStream b0 = true → a0 = b0) :
    Ct l yX4_relation wsX4_relation { frames := 2, cells := 0, slots := 0, locals := 43 } 0 0 D T A [.ref b, .int e0, .int a0, .int b0] (hm D T L A Sh I J) (some (.int (-1))) (hm D T L A Sh I J) := by
  refine Ct.ofW (cc := cX4_relation) (maxL := 5) (ret := (some .int)) (by decide) rfl (Nat.le_of_ble_eq_true rfl) ?_
  intro p_ e_ s_ m_ args_ below_ meth_ c_ ls R Qq hR hQ C0 hr hlk hname hM hl
  have hx := C0.1.1
  have hb := C0.1.2.1
  have hS : va_S A s_.heap s_.heap [] := va_S.rf
  have hl : lv_has ls 5 [(0, .ref b), (1, .int e0), (2, .int a0), (3, .int b0)] := hl
  refine lv_aload_n hx hb dX4_relation_0 rfl (lv_at hl 0 rfl) ?_
  refine lv_iload_n hx hb dX4_relation_1 rfl (lv_at hl 1 rfl) ?_
  refine mr_callV (As := [.int e0]) C0 (ctX4_isOrder (I := I) (J := J) (b := b) (e0 := e0) hMo) (cwV 1 C0.1.2.2.2.2 gX4_relation_X4_isOrder rfl rfl rfl (by decide +kernel) (by rw [hR]; exact ⟨Nat.le_of_ble_eq_true rfl, Nat.le_of_ble_eq_true rfl⟩)) hM hMo.1.1 hMo.1.2 rfl rfl hM hS rfl rfl rfl hl.1 (Nat.le_of_ble_eq_true rfl) dX4_relation_2 (by rw [hR]; exact ⟨Nat.zero_le _, Nat.zero_le _⟩) (fun H locs hM hS => ?_)
  refine mr_eqB (tgt := 27) C0 dX4_relation_5 (by decide) (fun c1 => ?_) (fun c1 => ?_)
  · skip
    refine lv_iconst (v := (-1)) hx hb dX4_relation_27 (by decide) ?_
    skip
    exact mr_iret (v := (-1)) C0 hr hlk hQ hS rfl hM (Nat.le_refl _) (Nat.le_refl _) dX4_relation_28
  · skip
    refine lv_iload_n hx hb dX4_relation_8 rfl (lv_at hl 2 rfl) ?_
    refine mr_callS (As := [.int a0]) C0 (ctX4_isStream (I := I) (J := J) (s0 := a0) ) (va_cwS 1 C0.1.2.2.2.2 gX4_relation_X4_isStream rfl rfl rfl (by decide +kernel) (by rw [hR]; exact ⟨Nat.le_of_ble_eq_true rfl, Nat.le_of_ble_eq_true rfl⟩)) hM hS rfl rfl rfl hl.1 (Nat.le_of_ble_eq_true rfl) dX4_relation_9 (by rw [hR]; exact ⟨Nat.zero_le _, Nat.zero_le _⟩) (fun H locs hM hS => ?_)
    refine mr_eqB (tgt := 27) C0 dX4_relation_12 (by decide) (fun c2 => ?_) (fun c2 => ?_)
    · skip
      refine lv_iconst (v := (-1)) hx hb dX4_relation_27 (by decide) ?_
      skip
      exact mr_iret (v := (-1)) C0 hr hlk hQ hS rfl hM (Nat.le_refl _) (Nat.le_refl _) dX4_relation_28
    · skip
      refine lv_iload_n hx hb dX4_relation_15 rfl (lv_at hl 3 rfl) ?_
      refine mr_callS (As := [.int b0]) C0 (ctX4_isStream (I := I) (J := J) (s0 := b0) ) (va_cwS 1 C0.1.2.2.2.2 gX4_relation_X4_isStream rfl rfl rfl (by decide +kernel) (by rw [hR]; exact ⟨Nat.le_of_ble_eq_true rfl, Nat.le_of_ble_eq_true rfl⟩)) hM hS rfl rfl rfl hl.1 (Nat.le_of_ble_eq_true rfl) dX4_relation_16 (by rw [hR]; exact ⟨Nat.zero_le _, Nat.zero_le _⟩) (fun H locs hM hS => ?_)
      refine mr_eqB (tgt := 27) C0 dX4_relation_19 (by decide) (fun c3 => ?_) (fun c3 => ?_)
      · skip
        refine lv_iconst (v := (-1)) hx hb dX4_relation_27 (by decide) ?_
        skip
        exact mr_iret (v := (-1)) C0 hr hlk hQ hS rfl hM (Nat.le_refl _) (Nat.le_refl _) dX4_relation_28
      · skip
        refine lv_iload_n hx hb dX4_relation_22 rfl (lv_at hl 2 rfl) ?_
        refine lv_iload_n hx hb dX4_relation_23 rfl (lv_at hl 3 rfl) ?_
        refine lv_icmp_ne (tgt := 29) hx hb dX4_relation_24 (by decide) (fun c4 => absurd (hb0 c1 c2 c3) c4) (fun c4 => ?_)
        refine lv_iconst (v := (-1)) hx hb dX4_relation_27 (by decide) ?_
        skip
        exact mr_iret (v := (-1)) C0 hr hlk hQ hS rfl hM (Nat.le_refl _) (Nat.le_refl _) dX4_relation_28
set_option maxHeartbeats 4000000 in
set_option maxRecDepth 100000 in
theorem ctX4_order_b {l : Launch} {D : va_G} {T : Nat → ClassId} {L : List Nat} {A : Nat → Prop} {Sh : hm_S} {I : hm_I} {J : hm_J} {b : Nat} (hMo : IsM L Sh b) {e0 w0 : Int32} (hb0 : (fX4_isOrder I b e0 && fX4_isIn w0 (nI 0) (nI 4)) = false) :
    Ct l yX4_order wsX4_order { frames := 2, cells := 0, slots := 0, locals := 43 } 0 0 D T A [.ref b, .int e0, .int w0] (hm D T L A Sh I J) (some (.int (-1))) (hm D T L A Sh I J) := by
  refine Ct.ofW (cc := cX4_order) (maxL := 4) (ret := (some .int)) (by decide) rfl (Nat.le_of_ble_eq_true rfl) ?_
  intro p_ e_ s_ m_ args_ below_ meth_ c_ ls R Qq hR hQ C0 hr hlk hname hM hl
  have hx := C0.1.1
  have hb := C0.1.2.1
  have hS : va_S A s_.heap s_.heap [] := va_S.rf
  have hl : lv_has ls 4 [(0, .ref b), (1, .int e0), (2, .int w0)] := hl
  refine lv_aload_n hx hb dX4_order_0 rfl (lv_at hl 0 rfl) ?_
  refine lv_iload_n hx hb dX4_order_1 rfl (lv_at hl 1 rfl) ?_
  refine mr_callV (As := [.int e0]) C0 (ctX4_isOrder (I := I) (J := J) (b := b) (e0 := e0) hMo) (cwV 1 C0.1.2.2.2.2 gX4_order_X4_isOrder rfl rfl rfl (by decide +kernel) (by rw [hR]; exact ⟨Nat.le_of_ble_eq_true rfl, Nat.le_of_ble_eq_true rfl⟩)) hM hMo.1.1 hMo.1.2 rfl rfl hM hS rfl rfl rfl hl.1 (Nat.le_of_ble_eq_true rfl) dX4_order_2 (by rw [hR]; exact ⟨Nat.zero_le _, Nat.zero_le _⟩) (fun H locs hM hS => ?_)
  refine mr_eqB (tgt := 17) C0 dX4_order_5 (by decide) (fun c1 => ?_) (fun c1 => ?_)
  · skip
    refine lv_iconst (v := (-1)) hx hb dX4_order_17 (by decide) ?_
    skip
    exact mr_iret (v := (-1)) C0 hr hlk hQ hS rfl hM (Nat.le_refl _) (Nat.le_refl _) dX4_order_18
  · skip
    refine lv_iload_n hx hb dX4_order_8 rfl (lv_at hl 2 rfl) ?_
    refine lv_iconst (v := nI 0) hx hb dX4_order_9 (by decide) ?_
    refine lv_iconst (v := nI 4) hx hb dX4_order_10 (by decide) ?_
    refine mr_callS (As := [.int w0, .int (nI 0), .int (nI 4)]) C0 (ctX4_isIn (I := I) (J := J) (v := w0) (lo := (nI 0)) (up := (nI 4)) ) (va_cwS 3 C0.1.2.2.2.2 gX4_order_X4_isIn rfl rfl rfl (by decide +kernel) (by rw [hR]; exact ⟨Nat.le_of_ble_eq_true rfl, Nat.le_of_ble_eq_true rfl⟩)) hM hS rfl rfl rfl hl.1 (Nat.le_of_ble_eq_true rfl) dX4_order_11 (by rw [hR]; exact ⟨Nat.zero_le _, Nat.zero_le _⟩) (fun H locs hM hS => ?_)
    refine mr_neB (tgt := 19) C0 dX4_order_14 (by decide) (fun c2 => absurd hb0 (by rw [c1, c2]; decide)) (fun c2 => ?_)
    refine lv_iconst (v := (-1)) hx hb dX4_order_17 (by decide) ?_
    skip
    exact mr_iret (v := (-1)) C0 hr hlk hQ hS rfl hM (Nat.le_refl _) (Nat.le_refl _) dX4_order_18
set_option maxHeartbeats 4000000 in
set_option maxRecDepth 100000 in
theorem ctX4_lists_b {l : Launch} {D : va_G} {T : Nat → ClassId} {L : List Nat} {A : Nat → Prop} {Sh : hm_S} {I : hm_I} {J : hm_J} {b : Nat} (hMo : IsM L Sh b) {e0 : Int32} (hb0 : fX4_isOrder I b e0 = false) :
    Ct l yX4_lists wsX4_lists { frames := 2, cells := 0, slots := 0, locals := 43 } 0 0 D T A [.ref b, .int e0] (hm D T L A Sh I J) (some (.long (-1))) (hm D T L A Sh I J) := by
  refine Ct.ofW (cc := cX4_lists) (maxL := 6) (ret := (some .long)) (by decide) rfl (Nat.le_of_ble_eq_true rfl) ?_
  intro p_ e_ s_ m_ args_ below_ meth_ c_ ls R Qq hR hQ C0 hr hlk hname hM hl
  have hx := C0.1.1
  have hb := C0.1.2.1
  have hS : va_S A s_.heap s_.heap [] := va_S.rf
  have hl : lv_has ls 6 [(0, .ref b), (1, .int e0)] := hl
  refine lv_aload_n hx hb dX4_lists_0 rfl (lv_at hl 0 rfl) ?_
  refine lv_iload_n hx hb dX4_lists_1 rfl (lv_at hl 1 rfl) ?_
  refine mr_callV (As := [.int e0]) C0 (ctX4_isOrder (I := I) (J := J) (b := b) (e0 := e0) hMo) (cwV 1 C0.1.2.2.2.2 gX4_lists_X4_isOrder rfl rfl rfl (by decide +kernel) (by rw [hR]; exact ⟨Nat.le_of_ble_eq_true rfl, Nat.le_of_ble_eq_true rfl⟩)) hM hMo.1.1 hMo.1.2 rfl rfl hM hS rfl rfl rfl hl.1 (Nat.le_of_ble_eq_true rfl) dX4_lists_2 (by rw [hR]; exact ⟨Nat.zero_le _, Nat.zero_le _⟩) (fun H locs hM hS => ?_)
  refine mr_neB (tgt := 12) C0 dX4_lists_5 (by decide) (fun c1 => absurd c1 (by rw [hb0]; decide)) (fun c1 => ?_)
  refine lv_ldc2 (v := (-1)) hx hb C0.1.2.2.2.1 (C0.1.2.2.2.2 _ (List.mem_of_getElem? (i := 1) rfl)) dX4_lists_8 ?_
  skip
  exact mr_lret (v := (-1)) C0 hr hlk hQ hS rfl hM (Nat.le_refl _) (Nat.le_refl _) dX4_lists_11
def fX4_relation_d (I : hm_I) (b a0 b0 : Nat) : Int32 × hm_I :=
  if fX4_has ((fX4_layAfter I b 176) (b + 4) a0) (nI b0) = true then if fX4_has ((fX4_layAfter I b 176) (b + 1) (176 + a0)) (nI b0) = true then (nI 1, fX4_layAfter I b 176) else (nI 2, fX4_layAfter I b 176) else if fX4_has ((fX4_layAfter I b 176) (b + 4) b0) (nI a0) = true then if fX4_has ((fX4_layAfter I b 176) (b + 1) (176 + b0)) (nI a0) = true then (nI 3, fX4_layAfter I b 176) else (nI 4, fX4_layAfter I b 176) else (nI 0, fX4_layAfter I b 176)
set_option maxHeartbeats 4000000 in
set_option maxRecDepth 100000 in
theorem ctX4_relation_d {l : Launch} {D : va_G} {T : Nat → ClassId} {L : List Nat} {A : Nat → Prop} {Sh : hm_S} {I : hm_I} {J : hm_J} {b : Nat} (hMo : IsM L Sh b) {a0 b0 : Nat} (ha0 : a0 < 8) (hb0 : b0 < 8) (hab : a0 ≠ b0) (ho : fX4_isOrder I b ((-1)) = true) :
    Ct l yX4_relation wsX4_relation { frames := 2, cells := 0, slots := 0, locals := 44 } 0 0 D T A [.ref b, .int (-1), .int (nI a0), .int (nI b0)] (hm D T L A Sh I J) (some (.int ((fX4_relation_d I b a0 b0).1))) (hm D T L A Sh ((fX4_relation_d I b a0 b0).2) J) := by
  refine Ct.ofW (cc := cX4_relation) (maxL := 5) (ret := (some .int)) (by decide) rfl (Nat.le_of_ble_eq_true rfl) ?_
  intro p_ e_ s_ m_ args_ below_ meth_ c_ ls R Qq hR hQ C0 hr hlk hname hM hl
  have hx := C0.1.1
  have hb := C0.1.2.1
  have hS : va_S A s_.heap s_.heap [] := va_S.rf
  have hl : lv_has ls 5 [(0, .ref b), (1, .int (-1)), (2, .int (nI a0)), (3, .int (nI b0))] := hl
  refine lv_aload_n hx hb dX4_relation_0 rfl (lv_at hl 0 rfl) ?_
  refine lv_iload_n hx hb dX4_relation_1 rfl (lv_at hl 1 rfl) ?_
  refine mr_callV (As := [.int (-1)]) C0 (ctX4_isOrder (I := I) (J := J) (b := b) (e0 := (-1)) hMo) (cwV 1 C0.1.2.2.2.2 gX4_relation_X4_isOrder rfl rfl rfl (by decide +kernel) (by rw [hR]; exact ⟨Nat.le_of_ble_eq_true rfl, Nat.le_of_ble_eq_true rfl⟩)) hM hMo.1.1 hMo.1.2 rfl rfl hM hS rfl rfl rfl hl.1 (Nat.le_of_ble_eq_true rfl) dX4_relation_2 (by rw [hR]; exact ⟨Nat.zero_le _, Nat.zero_le _⟩) (fun H locs hM hS => ?_)
  refine mr_eqB (tgt := 27) C0 dX4_relation_5 (by decide) (fun c1 => absurd c1 (by rw [ho]; decide)) (fun c1 => ?_)
  refine lv_iload_n hx hb dX4_relation_8 rfl (lv_at hl 2 rfl) ?_
  refine mr_callS (As := [.int (nI a0)]) C0 (isStreamM_t (I := I) (J := J) (s0 := a0) (by omega)) (va_cwS 1 C0.1.2.2.2.2 gX4_relation_X4_isStream rfl rfl rfl (by decide +kernel) (by rw [hR]; exact ⟨Nat.le_of_ble_eq_true rfl, Nat.le_of_ble_eq_true rfl⟩)) hM hS rfl rfl rfl hl.1 (Nat.le_of_ble_eq_true rfl) dX4_relation_9 (by rw [hR]; exact ⟨Nat.zero_le _, Nat.zero_le _⟩) (fun H locs hM hS => ?_)
  refine mr_eqB (tgt := 27) C0 dX4_relation_12 (by decide) (fun c2 => absurd c2 (by decide)) (fun _ => ?_)
  refine lv_iload_n hx hb dX4_relation_15 rfl (lv_at hl 3 rfl) ?_
  refine mr_callS (As := [.int (nI b0)]) C0 (isStreamM_t (I := I) (J := J) (s0 := b0) (by omega)) (va_cwS 1 C0.1.2.2.2.2 gX4_relation_X4_isStream rfl rfl rfl (by decide +kernel) (by rw [hR]; exact ⟨Nat.le_of_ble_eq_true rfl, Nat.le_of_ble_eq_true rfl⟩)) hM hS rfl rfl rfl hl.1 (Nat.le_of_ble_eq_true rfl) dX4_relation_16 (by rw [hR]; exact ⟨Nat.zero_le _, Nat.zero_le _⟩) (fun H locs hM hS => ?_)
  refine mr_eqB (tgt := 27) C0 dX4_relation_19 (by decide) (fun c3 => absurd c3 (by decide)) (fun _ => ?_)
  refine lv_iload_n hx hb dX4_relation_22 rfl (lv_at hl 2 rfl) ?_
  refine lv_iload_n hx hb dX4_relation_23 rfl (lv_at hl 3 rfl) ?_
  refine mr_neN (x := a0) (y := b0) (tgt := 29) C0 dX4_relation_24 (by decide) (by omega) (by omega) (fun c4 => ?_) (fun c4 => absurd c4 hab)
  refine lv_iload_n hx hb dX4_relation_29 rfl (lv_at hl 1 rfl) ?_
  refine mr_callS (As := [.int (-1)]) C0 (ctX4_orderOf_d (I := I) (J := J) ) (va_cwS 1 C0.1.2.2.2.2 gX4_relation_X4_orderOf rfl rfl rfl (by decide +kernel) (by rw [hR]; exact ⟨Nat.le_of_ble_eq_true rfl, Nat.le_of_ble_eq_true rfl⟩)) hM hS rfl rfl rfl hl.1 (Nat.le_of_ble_eq_true rfl) dX4_relation_30 (by rw [hR]; exact ⟨Nat.zero_le _, Nat.zero_le _⟩) (fun H locs hM hS => ?_)
  refine lv_istore (lv' := [(4, .int (nI 176)), (0, .ref b), (1, .int (-1)), (2, .int (nI a0)), (3, .int (nI b0))]) hx hb dX4_relation_33 hl (by decide) rfl (fun ls hl => ?_)
  refine lv_aload_n hx hb dX4_relation_35 rfl (lv_at hl 1 rfl) ?_
  refine lv_iload hx hb dX4_relation_36 (lv_at hl 0 rfl) ?_
  refine mr_callV (As := [.int (nI 176)]) C0 (ctX4_layAfter (I := I) (J := J) (b := b) (o := 176) hMo (by omega)) (cwV 1 C0.1.2.2.2.2 gX4_relation_X4_layAfter rfl rfl rfl (by decide +kernel) (by rw [hR]; exact ⟨Nat.le_of_ble_eq_true rfl, Nat.le_of_ble_eq_true rfl⟩)) hM hMo.1.1 hMo.1.2 rfl rfl hM hS rfl rfl rfl hl.1 (Nat.le_of_ble_eq_true rfl) dX4_relation_38 (by rw [hR]; exact ⟨Nat.zero_le _, Nat.zero_le _⟩) (fun H locs hM hS => ?_)
  refine lv_aload_n hx hb dX4_relation_41 rfl (lv_at hl 1 rfl) ?_
  refine mr_getr (r := b + 4) (TT := TX4) (N := 10) C0 uX4_relation_X4 hM hMo.1.1 hMo.1.2 rfl 5 (by decide) rfl kX4_relation_f19 rfl dX4_relation_42 ?_
  refine lv_iload_n hx hb dX4_relation_45 rfl (lv_at hl 3 rfl) ?_
  refine mr_ialdN (v := (fX4_layAfter I b 176) (b + 4) a0) C0 hM hMo.2.2.2.2.1.1 hMo.2.2.2.2.1.2 (by decide) (by omega) rfl dX4_relation_46 ?_
  refine lv_iload_n hx hb dX4_relation_47 rfl (lv_at hl 4 rfl) ?_
  refine mr_callS (As := [.int ((fX4_layAfter I b 176) (b + 4) a0), .int (nI b0)]) C0 (ctX4_has (I := (fX4_layAfter I b 176)) (J := J) (u := ((fX4_layAfter I b 176) (b + 4) a0)) (s0 := (nI b0)) ) (va_cwS 2 C0.1.2.2.2.2 gX4_relation_X4_has rfl rfl rfl (by decide +kernel) (by rw [hR]; exact ⟨Nat.le_of_ble_eq_true rfl, Nat.le_of_ble_eq_true rfl⟩)) hM hS rfl rfl rfl hl.1 (Nat.le_of_ble_eq_true rfl) dX4_relation_48 (by rw [hR]; exact ⟨Nat.zero_le _, Nat.zero_le _⟩) (fun H locs hM hS => ?_)
  refine mr_eqB (tgt := 76) C0 dX4_relation_51 (by decide) (fun c5 => ?_) (fun c5 => ?_)
  · skip
    refine lv_aload_n hx hb dX4_relation_76 rfl (lv_at hl 1 rfl) ?_
    refine mr_getr (r := b + 4) (TT := TX4) (N := 10) C0 uX4_relation_X4 hM hMo.1.1 hMo.1.2 rfl 5 (by decide) rfl kX4_relation_f19 rfl dX4_relation_77 ?_
    refine lv_iload_n hx hb dX4_relation_80 rfl (lv_at hl 4 rfl) ?_
    refine mr_ialdN (v := (fX4_layAfter I b 176) (b + 4) b0) C0 hM hMo.2.2.2.2.1.1 hMo.2.2.2.2.1.2 (by decide) (by omega) rfl dX4_relation_81 ?_
    refine lv_iload_n hx hb dX4_relation_82 rfl (lv_at hl 3 rfl) ?_
    refine mr_callS (As := [.int ((fX4_layAfter I b 176) (b + 4) b0), .int (nI a0)]) C0 (ctX4_has (I := (fX4_layAfter I b 176)) (J := J) (u := ((fX4_layAfter I b 176) (b + 4) b0)) (s0 := (nI a0)) ) (va_cwS 2 C0.1.2.2.2.2 gX4_relation_X4_has rfl rfl rfl (by decide +kernel) (by rw [hR]; exact ⟨Nat.le_of_ble_eq_true rfl, Nat.le_of_ble_eq_true rfl⟩)) hM hS rfl rfl rfl hl.1 (Nat.le_of_ble_eq_true rfl) dX4_relation_83 (by rw [hR]; exact ⟨Nat.zero_le _, Nat.zero_le _⟩) (fun H locs hM hS => ?_)
    refine mr_neB (tgt := 93) C0 dX4_relation_86 (by decide) (fun c6 => ?_) (fun c6 => ?_)
    · skip
      refine lv_aload_n hx hb dX4_relation_93 rfl (lv_at hl 1 rfl) ?_
      refine mr_getr (r := b + 1) (TT := TX4) (N := 10) C0 uX4_relation_X4 hM hMo.1.1 hMo.1.2 rfl 0 (by decide) rfl kX4_relation_f7 rfl dX4_relation_94 ?_
      refine lv_iload hx hb dX4_relation_97 (lv_at hl 0 rfl) ?_
      refine lv_iload_n hx hb dX4_relation_99 rfl (lv_at hl 4 rfl) ?_
      refine mr_iaddN (z := 176 + b0) C0 rfl dX4_relation_100 ?_
      refine mr_ialdN (v := (fX4_layAfter I b 176) (b + 1) (176 + b0)) C0 hM hMo.2.1.1 hMo.2.1.2 (by decide) (by omega) rfl dX4_relation_101 ?_
      refine lv_iload_n hx hb dX4_relation_102 rfl (lv_at hl 3 rfl) ?_
      refine mr_callS (As := [.int ((fX4_layAfter I b 176) (b + 1) (176 + b0)), .int (nI a0)]) C0 (ctX4_has (I := (fX4_layAfter I b 176)) (J := J) (u := ((fX4_layAfter I b 176) (b + 1) (176 + b0))) (s0 := (nI a0)) ) (va_cwS 2 C0.1.2.2.2.2 gX4_relation_X4_has rfl rfl rfl (by decide +kernel) (by rw [hR]; exact ⟨Nat.le_of_ble_eq_true rfl, Nat.le_of_ble_eq_true rfl⟩)) hM hS rfl rfl rfl hl.1 (Nat.le_of_ble_eq_true rfl) dX4_relation_103 (by rw [hR]; exact ⟨Nat.zero_le _, Nat.zero_le _⟩) (fun H locs hM hS => ?_)
      refine mr_eqB (tgt := 113) C0 dX4_relation_106 (by decide) (fun c7 => ?_) (fun c7 => ?_)
      · skip
        refine lv_iconst (v := nI 4) hx hb dX4_relation_113 (by decide) ?_
        have eF : (nI 4, fX4_layAfter I b 176) = fX4_relation_d I b a0 b0 := by unfold fX4_relation_d; rw [if_neg (Bool.eq_false_iff.mp c5), if_pos c6, if_neg (Bool.eq_false_iff.mp c7)]
        exact mr_iret (v := nI 4) C0 hr hlk hQ hS (by rw [← eF]) (by rw [← eF]; exact hM) (Nat.le_refl _) (Nat.le_refl _) dX4_relation_114
      · skip
        refine lv_iconst (v := nI 3) hx hb dX4_relation_109 (by decide) ?_
        refine lv_goto (tgt := 114) hx hb dX4_relation_110 (by decide) ?_
        have eF : (nI 3, fX4_layAfter I b 176) = fX4_relation_d I b a0 b0 := by unfold fX4_relation_d; rw [if_neg (Bool.eq_false_iff.mp c5), if_pos c6, if_pos c7]
        exact mr_iret (v := nI 3) C0 hr hlk hQ hS (by rw [← eF]) (by rw [← eF]; exact hM) (Nat.le_refl _) (Nat.le_refl _) dX4_relation_114
    · skip
      refine lv_iconst (v := nI 0) hx hb dX4_relation_89 (by decide) ?_
      refine lv_goto (tgt := 114) hx hb dX4_relation_90 (by decide) ?_
      have eF : (nI 0, fX4_layAfter I b 176) = fX4_relation_d I b a0 b0 := by unfold fX4_relation_d; rw [if_neg (Bool.eq_false_iff.mp c5), if_neg (Bool.eq_false_iff.mp c6)]
      exact mr_iret (v := nI 0) C0 hr hlk hQ hS (by rw [← eF]) (by rw [← eF]; exact hM) (Nat.le_refl _) (Nat.le_refl _) dX4_relation_114
  · skip
    refine lv_aload_n hx hb dX4_relation_54 rfl (lv_at hl 1 rfl) ?_
    refine mr_getr (r := b + 1) (TT := TX4) (N := 10) C0 uX4_relation_X4 hM hMo.1.1 hMo.1.2 rfl 0 (by decide) rfl kX4_relation_f7 rfl dX4_relation_55 ?_
    refine lv_iload hx hb dX4_relation_58 (lv_at hl 0 rfl) ?_
    refine lv_iload_n hx hb dX4_relation_60 rfl (lv_at hl 3 rfl) ?_
    refine mr_iaddN (z := 176 + a0) C0 rfl dX4_relation_61 ?_
    refine mr_ialdN (v := (fX4_layAfter I b 176) (b + 1) (176 + a0)) C0 hM hMo.2.1.1 hMo.2.1.2 (by decide) (by omega) rfl dX4_relation_62 ?_
    refine lv_iload_n hx hb dX4_relation_63 rfl (lv_at hl 4 rfl) ?_
    refine mr_callS (As := [.int ((fX4_layAfter I b 176) (b + 1) (176 + a0)), .int (nI b0)]) C0 (ctX4_has (I := (fX4_layAfter I b 176)) (J := J) (u := ((fX4_layAfter I b 176) (b + 1) (176 + a0))) (s0 := (nI b0)) ) (va_cwS 2 C0.1.2.2.2.2 gX4_relation_X4_has rfl rfl rfl (by decide +kernel) (by rw [hR]; exact ⟨Nat.le_of_ble_eq_true rfl, Nat.le_of_ble_eq_true rfl⟩)) hM hS rfl rfl rfl hl.1 (Nat.le_of_ble_eq_true rfl) dX4_relation_64 (by rw [hR]; exact ⟨Nat.zero_le _, Nat.zero_le _⟩) (fun H locs hM hS => ?_)
    refine mr_eqB (tgt := 74) C0 dX4_relation_67 (by decide) (fun c8 => ?_) (fun c8 => ?_)
    · skip
      refine lv_iconst (v := nI 2) hx hb dX4_relation_74 (by decide) ?_
      have eF : (nI 2, fX4_layAfter I b 176) = fX4_relation_d I b a0 b0 := by unfold fX4_relation_d; rw [if_pos c5, if_neg (Bool.eq_false_iff.mp c8)]
      exact mr_iret (v := nI 2) C0 hr hlk hQ hS (by rw [← eF]) (by rw [← eF]; exact hM) (Nat.le_refl _) (Nat.le_refl _) dX4_relation_75
    · skip
      refine lv_iconst (v := nI 1) hx hb dX4_relation_70 (by decide) ?_
      refine lv_goto (tgt := 75) hx hb dX4_relation_71 (by decide) ?_
      have eF : (nI 1, fX4_layAfter I b 176) = fX4_relation_d I b a0 b0 := by unfold fX4_relation_d; rw [if_pos c5, if_pos c8]
      exact mr_iret (v := nI 1) C0 hr hlk hQ hS (by rw [← eF]) (by rw [← eF]; exact hM) (Nat.le_refl _) (Nat.le_refl _) dX4_relation_75
set_option maxHeartbeats 4000000 in
set_option maxRecDepth 100000 in
theorem ctX4_order_d0 {l : Launch} {D : va_G} {T : Nat → ClassId} {L : List Nat} {A : Nat → Prop} {Sh : hm_S} {I : hm_I} {J : hm_J} {b : Nat} (hMo : IsM L Sh b) (ho : fX4_isOrder I b ((-1)) = true) :
    Ct l yX4_order wsX4_order { frames := 2, cells := 0, slots := 0, locals := 45 } 0 0 D T A [.ref b, .int (-1), .int (nI 0)] (hm D T L A Sh I J) (some (.int (fX4_pairs (fX4_layAfter I b 176) b (fX4_openSet (fX4_layAfter I b 176) b)))) (hm D T L A Sh (fX4_layAfter I b 176) J) := by
  refine Ct.ofW (cc := cX4_order) (maxL := 4) (ret := (some .int)) (by decide) rfl (Nat.le_of_ble_eq_true rfl) ?_
  intro p_ e_ s_ m_ args_ below_ meth_ c_ ls R Qq hR hQ C0 hr hlk hname hM hl
  have hx := C0.1.1
  have hb := C0.1.2.1
  have hS : va_S A s_.heap s_.heap [] := va_S.rf
  have hl : lv_has ls 4 [(0, .ref b), (1, .int (-1)), (2, .int (nI 0))] := hl
  refine lv_aload_n hx hb dX4_order_0 rfl (lv_at hl 0 rfl) ?_
  refine lv_iload_n hx hb dX4_order_1 rfl (lv_at hl 1 rfl) ?_
  refine mr_callV (As := [.int (-1)]) C0 (ctX4_isOrder (I := I) (J := J) (b := b) (e0 := (-1)) hMo) (cwV 1 C0.1.2.2.2.2 gX4_order_X4_isOrder rfl rfl rfl (by decide +kernel) (by rw [hR]; exact ⟨Nat.le_of_ble_eq_true rfl, Nat.le_of_ble_eq_true rfl⟩)) hM hMo.1.1 hMo.1.2 rfl rfl hM hS rfl rfl rfl hl.1 (Nat.le_of_ble_eq_true rfl) dX4_order_2 (by rw [hR]; exact ⟨Nat.zero_le _, Nat.zero_le _⟩) (fun H locs hM hS => ?_)
  refine mr_eqB (tgt := 17) C0 dX4_order_5 (by decide) (fun c1 => absurd c1 (by rw [ho]; decide)) (fun c1 => ?_)
  refine lv_iload_n hx hb dX4_order_8 rfl (lv_at hl 2 rfl) ?_
  refine lv_iconst (v := nI 0) hx hb dX4_order_9 (by decide) ?_
  refine lv_iconst (v := nI 4) hx hb dX4_order_10 (by decide) ?_
  refine mr_callS (As := [.int (nI 0), .int (nI 0), .int (nI 4)]) C0 (ctX4_isIn (I := I) (J := J) (v := (nI 0)) (lo := (nI 0)) (up := (nI 4)) ) (va_cwS 3 C0.1.2.2.2.2 gX4_order_X4_isIn rfl rfl rfl (by decide +kernel) (by rw [hR]; exact ⟨Nat.le_of_ble_eq_true rfl, Nat.le_of_ble_eq_true rfl⟩)) hM hS rfl rfl rfl hl.1 (Nat.le_of_ble_eq_true rfl) dX4_order_11 (by rw [hR]; exact ⟨Nat.zero_le _, Nat.zero_le _⟩) (fun H locs hM hS => ?_)
  refine mr_neB (tgt := 19) C0 dX4_order_14 (by decide) (fun c2 => ?_) (fun c2 => absurd c2 (by decide))
  refine lv_aload_n hx hb dX4_order_19 rfl (lv_at hl 0 rfl) ?_
  refine lv_iload_n hx hb dX4_order_20 rfl (lv_at hl 1 rfl) ?_
  refine mr_callS (As := [.int (-1)]) C0 (ctX4_orderOf_d (I := I) (J := J) ) (va_cwS 1 C0.1.2.2.2.2 gX4_order_X4_orderOf rfl rfl rfl (by decide +kernel) (by rw [hR]; exact ⟨Nat.le_of_ble_eq_true rfl, Nat.le_of_ble_eq_true rfl⟩)) hM hS rfl rfl rfl hl.1 (Nat.le_of_ble_eq_true rfl) dX4_order_21 (by rw [hR]; exact ⟨Nat.zero_le _, Nat.zero_le _⟩) (fun H locs hM hS => ?_)
  refine mr_callV (As := [.int (nI 176)]) C0 (ctX4_layAfter (I := I) (J := J) (b := b) (o := 176) hMo (by omega)) (cwV 1 C0.1.2.2.2.2 gX4_order_X4_layAfter rfl rfl rfl (by decide +kernel) (by rw [hR]; exact ⟨Nat.le_of_ble_eq_true rfl, Nat.le_of_ble_eq_true rfl⟩)) hM hMo.1.1 hMo.1.2 rfl rfl hM hS rfl rfl rfl hl.1 (Nat.le_of_ble_eq_true rfl) dX4_order_24 (by rw [hR]; exact ⟨Nat.zero_le _, Nat.zero_le _⟩) (fun H locs hM hS => ?_)
  refine lv_aload_n hx hb dX4_order_27 rfl (lv_at hl 0 rfl) ?_
  refine mr_callV (As := []) C0 (ctX4_openSet (I := (fX4_layAfter I b 176)) (J := J) (b := b) hMo) (cwV 0 C0.1.2.2.2.2 gX4_order_X4_openSet rfl rfl rfl (by decide +kernel) (by rw [hR]; exact ⟨Nat.le_of_ble_eq_true rfl, Nat.le_of_ble_eq_true rfl⟩)) hM hMo.1.1 hMo.1.2 rfl rfl hM hS rfl rfl rfl hl.1 (Nat.le_of_ble_eq_true rfl) dX4_order_28 (by rw [hR]; exact ⟨Nat.zero_le _, Nat.zero_le _⟩) (fun H locs hM hS => ?_)
  refine lv_istore_n (lv' := [(3, .int (fX4_openSet (fX4_layAfter I b 176) b)), (0, .ref b), (1, .int (-1)), (2, .int (nI 0))]) hx hb dX4_order_31 rfl hl (by decide) rfl (fun ls hl => ?_)
  refine lv_iload_n hx hb dX4_order_32 rfl (lv_at hl 3 rfl) ?_
  refine lv_tableIn (off := 31) (tgt := 64) hx hb dX4_order_33 (by decide) (by decide) (by decide) (by decide) ?_
  refine lv_aload_n hx hb dX4_order_64 rfl (lv_at hl 1 rfl) ?_
  refine lv_iload_n hx hb dX4_order_65 rfl (lv_at hl 0 rfl) ?_
  refine mr_callV (As := [.int (fX4_openSet (fX4_layAfter I b 176) b)]) C0 (ctX4_pairs (I := (fX4_layAfter I b 176)) (J := J) (b := b) (u := (fX4_openSet (fX4_layAfter I b 176) b)) hMo) (cwV 1 C0.1.2.2.2.2 gX4_order_X4_pairs rfl rfl rfl (by decide +kernel) (by rw [hR]; exact ⟨Nat.le_of_ble_eq_true rfl, Nat.le_of_ble_eq_true rfl⟩)) hM hMo.1.1 hMo.1.2 rfl rfl hM hS rfl rfl rfl hl.1 (Nat.le_of_ble_eq_true rfl) dX4_order_66 (by rw [hR]; exact ⟨Nat.zero_le _, Nat.zero_le _⟩) (fun H locs hM hS => ?_)
  skip
  exact mr_iret (v := fX4_pairs (fX4_layAfter I b 176) b (fX4_openSet (fX4_layAfter I b 176) b)) C0 hr hlk hQ hS rfl hM (Nat.le_refl _) (Nat.le_refl _) dX4_order_69
set_option maxHeartbeats 4000000 in
set_option maxRecDepth 100000 in
theorem ctX4_order_d1 {l : Launch} {D : va_G} {T : Nat → ClassId} {L : List Nat} {A : Nat → Prop} {Sh : hm_S} {I : hm_I} {J : hm_J} {b : Nat} (hMo : IsM L Sh b) (ho : fX4_isOrder I b ((-1)) = true) :
    Ct l yX4_order wsX4_order { frames := 2, cells := 0, slots := 0, locals := 47 } 0 0 D T A [.ref b, .int (-1), .int (nI 1)] (hm D T L A Sh I J) (some (.int ((fX4_longest (fX4_layAfter I b 176) b (fX4_openSet (fX4_layAfter I b 176) b)).1))) (hm D T L A Sh ((fX4_longest (fX4_layAfter I b 176) b (fX4_openSet (fX4_layAfter I b 176) b)).2) J) := by
  refine Ct.ofW (cc := cX4_order) (maxL := 4) (ret := (some .int)) (by decide) rfl (Nat.le_of_ble_eq_true rfl) ?_
  intro p_ e_ s_ m_ args_ below_ meth_ c_ ls R Qq hR hQ C0 hr hlk hname hM hl
  have hx := C0.1.1
  have hb := C0.1.2.1
  have hS : va_S A s_.heap s_.heap [] := va_S.rf
  have hl : lv_has ls 4 [(0, .ref b), (1, .int (-1)), (2, .int (nI 1))] := hl
  refine lv_aload_n hx hb dX4_order_0 rfl (lv_at hl 0 rfl) ?_
  refine lv_iload_n hx hb dX4_order_1 rfl (lv_at hl 1 rfl) ?_
  refine mr_callV (As := [.int (-1)]) C0 (ctX4_isOrder (I := I) (J := J) (b := b) (e0 := (-1)) hMo) (cwV 1 C0.1.2.2.2.2 gX4_order_X4_isOrder rfl rfl rfl (by decide +kernel) (by rw [hR]; exact ⟨Nat.le_of_ble_eq_true rfl, Nat.le_of_ble_eq_true rfl⟩)) hM hMo.1.1 hMo.1.2 rfl rfl hM hS rfl rfl rfl hl.1 (Nat.le_of_ble_eq_true rfl) dX4_order_2 (by rw [hR]; exact ⟨Nat.zero_le _, Nat.zero_le _⟩) (fun H locs hM hS => ?_)
  refine mr_eqB (tgt := 17) C0 dX4_order_5 (by decide) (fun c1 => absurd c1 (by rw [ho]; decide)) (fun c1 => ?_)
  refine lv_iload_n hx hb dX4_order_8 rfl (lv_at hl 2 rfl) ?_
  refine lv_iconst (v := nI 0) hx hb dX4_order_9 (by decide) ?_
  refine lv_iconst (v := nI 4) hx hb dX4_order_10 (by decide) ?_
  refine mr_callS (As := [.int (nI 1), .int (nI 0), .int (nI 4)]) C0 (ctX4_isIn (I := I) (J := J) (v := (nI 1)) (lo := (nI 0)) (up := (nI 4)) ) (va_cwS 3 C0.1.2.2.2.2 gX4_order_X4_isIn rfl rfl rfl (by decide +kernel) (by rw [hR]; exact ⟨Nat.le_of_ble_eq_true rfl, Nat.le_of_ble_eq_true rfl⟩)) hM hS rfl rfl rfl hl.1 (Nat.le_of_ble_eq_true rfl) dX4_order_11 (by rw [hR]; exact ⟨Nat.zero_le _, Nat.zero_le _⟩) (fun H locs hM hS => ?_)
  refine mr_neB (tgt := 19) C0 dX4_order_14 (by decide) (fun c2 => ?_) (fun c2 => absurd c2 (by decide))
  refine lv_aload_n hx hb dX4_order_19 rfl (lv_at hl 0 rfl) ?_
  refine lv_iload_n hx hb dX4_order_20 rfl (lv_at hl 1 rfl) ?_
  refine mr_callS (As := [.int (-1)]) C0 (ctX4_orderOf_d (I := I) (J := J) ) (va_cwS 1 C0.1.2.2.2.2 gX4_order_X4_orderOf rfl rfl rfl (by decide +kernel) (by rw [hR]; exact ⟨Nat.le_of_ble_eq_true rfl, Nat.le_of_ble_eq_true rfl⟩)) hM hS rfl rfl rfl hl.1 (Nat.le_of_ble_eq_true rfl) dX4_order_21 (by rw [hR]; exact ⟨Nat.zero_le _, Nat.zero_le _⟩) (fun H locs hM hS => ?_)
  refine mr_callV (As := [.int (nI 176)]) C0 (ctX4_layAfter (I := I) (J := J) (b := b) (o := 176) hMo (by omega)) (cwV 1 C0.1.2.2.2.2 gX4_order_X4_layAfter rfl rfl rfl (by decide +kernel) (by rw [hR]; exact ⟨Nat.le_of_ble_eq_true rfl, Nat.le_of_ble_eq_true rfl⟩)) hM hMo.1.1 hMo.1.2 rfl rfl hM hS rfl rfl rfl hl.1 (Nat.le_of_ble_eq_true rfl) dX4_order_24 (by rw [hR]; exact ⟨Nat.zero_le _, Nat.zero_le _⟩) (fun H locs hM hS => ?_)
  refine lv_aload_n hx hb dX4_order_27 rfl (lv_at hl 0 rfl) ?_
  refine mr_callV (As := []) C0 (ctX4_openSet (I := (fX4_layAfter I b 176)) (J := J) (b := b) hMo) (cwV 0 C0.1.2.2.2.2 gX4_order_X4_openSet rfl rfl rfl (by decide +kernel) (by rw [hR]; exact ⟨Nat.le_of_ble_eq_true rfl, Nat.le_of_ble_eq_true rfl⟩)) hM hMo.1.1 hMo.1.2 rfl rfl hM hS rfl rfl rfl hl.1 (Nat.le_of_ble_eq_true rfl) dX4_order_28 (by rw [hR]; exact ⟨Nat.zero_le _, Nat.zero_le _⟩) (fun H locs hM hS => ?_)
  refine lv_istore_n (lv' := [(3, .int (fX4_openSet (fX4_layAfter I b 176) b)), (0, .ref b), (1, .int (-1)), (2, .int (nI 1))]) hx hb dX4_order_31 rfl hl (by decide) rfl (fun ls hl => ?_)
  refine lv_iload_n hx hb dX4_order_32 rfl (lv_at hl 3 rfl) ?_
  refine lv_tableIn (off := 37) (tgt := 70) hx hb dX4_order_33 (by decide) (by decide) (by decide) (by decide) ?_
  refine lv_aload_n hx hb dX4_order_70 rfl (lv_at hl 1 rfl) ?_
  refine lv_iload_n hx hb dX4_order_71 rfl (lv_at hl 0 rfl) ?_
  refine mr_callV (As := [.int (fX4_openSet (fX4_layAfter I b 176) b)]) C0 (ctX4_longest (I := (fX4_layAfter I b 176)) (J := J) (b := b) (u := (fX4_openSet (fX4_layAfter I b 176) b)) hMo) (cwV 1 C0.1.2.2.2.2 gX4_order_X4_longest rfl rfl rfl (by decide +kernel) (by rw [hR]; exact ⟨Nat.le_of_ble_eq_true rfl, Nat.le_of_ble_eq_true rfl⟩)) hM hMo.1.1 hMo.1.2 rfl rfl hM hS rfl rfl rfl hl.1 (Nat.le_of_ble_eq_true rfl) dX4_order_72 (by rw [hR]; exact ⟨Nat.zero_le _, Nat.zero_le _⟩) (fun H locs hM hS => ?_)
  skip
  exact mr_iret (v := (fX4_longest (fX4_layAfter I b 176) b (fX4_openSet (fX4_layAfter I b 176) b)).1) C0 hr hlk hQ hS rfl hM (Nat.le_refl _) (Nat.le_refl _) dX4_order_75
set_option maxHeartbeats 4000000 in
set_option maxRecDepth 100000 in
theorem ctX4_order_d2 {l : Launch} {D : va_G} {T : Nat → ClassId} {L : List Nat} {A : Nat → Prop} {Sh : hm_S} {I : hm_I} {J : hm_J} {b : Nat} (hMo : IsM L Sh b) (ho : fX4_isOrder I b ((-1)) = true) :
    Ct l yX4_order wsX4_order { frames := 3, cells := 0, slots := 0, locals := 68 } 0 0 D T A [.ref b, .int (-1), .int (nI 2)] (hm D T L A Sh I J) (some (.int (fX4_widest (fX4_layAfter I b 176) b (fX4_openSet (fX4_layAfter I b 176) b)))) (hm D T L A Sh (fX4_layAfter I b 176) J) := by
  refine Ct.ofW (cc := cX4_order) (maxL := 4) (ret := (some .int)) (by decide) rfl (Nat.le_of_ble_eq_true rfl) ?_
  intro p_ e_ s_ m_ args_ below_ meth_ c_ ls R Qq hR hQ C0 hr hlk hname hM hl
  have hx := C0.1.1
  have hb := C0.1.2.1
  have hS : va_S A s_.heap s_.heap [] := va_S.rf
  have hl : lv_has ls 4 [(0, .ref b), (1, .int (-1)), (2, .int (nI 2))] := hl
  refine lv_aload_n hx hb dX4_order_0 rfl (lv_at hl 0 rfl) ?_
  refine lv_iload_n hx hb dX4_order_1 rfl (lv_at hl 1 rfl) ?_
  refine mr_callV (As := [.int (-1)]) C0 (ctX4_isOrder (I := I) (J := J) (b := b) (e0 := (-1)) hMo) (cwV 1 C0.1.2.2.2.2 gX4_order_X4_isOrder rfl rfl rfl (by decide +kernel) (by rw [hR]; exact ⟨Nat.le_of_ble_eq_true rfl, Nat.le_of_ble_eq_true rfl⟩)) hM hMo.1.1 hMo.1.2 rfl rfl hM hS rfl rfl rfl hl.1 (Nat.le_of_ble_eq_true rfl) dX4_order_2 (by rw [hR]; exact ⟨Nat.zero_le _, Nat.zero_le _⟩) (fun H locs hM hS => ?_)
  refine mr_eqB (tgt := 17) C0 dX4_order_5 (by decide) (fun c1 => absurd c1 (by rw [ho]; decide)) (fun c1 => ?_)
  refine lv_iload_n hx hb dX4_order_8 rfl (lv_at hl 2 rfl) ?_
  refine lv_iconst (v := nI 0) hx hb dX4_order_9 (by decide) ?_
  refine lv_iconst (v := nI 4) hx hb dX4_order_10 (by decide) ?_
  refine mr_callS (As := [.int (nI 2), .int (nI 0), .int (nI 4)]) C0 (ctX4_isIn (I := I) (J := J) (v := (nI 2)) (lo := (nI 0)) (up := (nI 4)) ) (va_cwS 3 C0.1.2.2.2.2 gX4_order_X4_isIn rfl rfl rfl (by decide +kernel) (by rw [hR]; exact ⟨Nat.le_of_ble_eq_true rfl, Nat.le_of_ble_eq_true rfl⟩)) hM hS rfl rfl rfl hl.1 (Nat.le_of_ble_eq_true rfl) dX4_order_11 (by rw [hR]; exact ⟨Nat.zero_le _, Nat.zero_le _⟩) (fun H locs hM hS => ?_)
  refine mr_neB (tgt := 19) C0 dX4_order_14 (by decide) (fun c2 => ?_) (fun c2 => absurd c2 (by decide))
  refine lv_aload_n hx hb dX4_order_19 rfl (lv_at hl 0 rfl) ?_
  refine lv_iload_n hx hb dX4_order_20 rfl (lv_at hl 1 rfl) ?_
  refine mr_callS (As := [.int (-1)]) C0 (ctX4_orderOf_d (I := I) (J := J) ) (va_cwS 1 C0.1.2.2.2.2 gX4_order_X4_orderOf rfl rfl rfl (by decide +kernel) (by rw [hR]; exact ⟨Nat.le_of_ble_eq_true rfl, Nat.le_of_ble_eq_true rfl⟩)) hM hS rfl rfl rfl hl.1 (Nat.le_of_ble_eq_true rfl) dX4_order_21 (by rw [hR]; exact ⟨Nat.zero_le _, Nat.zero_le _⟩) (fun H locs hM hS => ?_)
  refine mr_callV (As := [.int (nI 176)]) C0 (ctX4_layAfter (I := I) (J := J) (b := b) (o := 176) hMo (by omega)) (cwV 1 C0.1.2.2.2.2 gX4_order_X4_layAfter rfl rfl rfl (by decide +kernel) (by rw [hR]; exact ⟨Nat.le_of_ble_eq_true rfl, Nat.le_of_ble_eq_true rfl⟩)) hM hMo.1.1 hMo.1.2 rfl rfl hM hS rfl rfl rfl hl.1 (Nat.le_of_ble_eq_true rfl) dX4_order_24 (by rw [hR]; exact ⟨Nat.zero_le _, Nat.zero_le _⟩) (fun H locs hM hS => ?_)
  refine lv_aload_n hx hb dX4_order_27 rfl (lv_at hl 0 rfl) ?_
  refine mr_callV (As := []) C0 (ctX4_openSet (I := (fX4_layAfter I b 176)) (J := J) (b := b) hMo) (cwV 0 C0.1.2.2.2.2 gX4_order_X4_openSet rfl rfl rfl (by decide +kernel) (by rw [hR]; exact ⟨Nat.le_of_ble_eq_true rfl, Nat.le_of_ble_eq_true rfl⟩)) hM hMo.1.1 hMo.1.2 rfl rfl hM hS rfl rfl rfl hl.1 (Nat.le_of_ble_eq_true rfl) dX4_order_28 (by rw [hR]; exact ⟨Nat.zero_le _, Nat.zero_le _⟩) (fun H locs hM hS => ?_)
  refine lv_istore_n (lv' := [(3, .int (fX4_openSet (fX4_layAfter I b 176) b)), (0, .ref b), (1, .int (-1)), (2, .int (nI 2))]) hx hb dX4_order_31 rfl hl (by decide) rfl (fun ls hl => ?_)
  refine lv_iload_n hx hb dX4_order_32 rfl (lv_at hl 3 rfl) ?_
  refine lv_tableIn (off := 43) (tgt := 76) hx hb dX4_order_33 (by decide) (by decide) (by decide) (by decide) ?_
  refine lv_aload_n hx hb dX4_order_76 rfl (lv_at hl 1 rfl) ?_
  refine lv_iload_n hx hb dX4_order_77 rfl (lv_at hl 0 rfl) ?_
  refine mr_callV (As := [.int (fX4_openSet (fX4_layAfter I b 176) b)]) C0 (ctX4_widest (I := (fX4_layAfter I b 176)) (J := J) (b := b) (u := (fX4_openSet (fX4_layAfter I b 176) b)) hMo) (cwV 1 C0.1.2.2.2.2 gX4_order_X4_widest rfl rfl rfl (by decide +kernel) (by rw [hR]; exact ⟨Nat.le_of_ble_eq_true rfl, Nat.le_of_ble_eq_true rfl⟩)) hM hMo.1.1 hMo.1.2 rfl rfl hM hS rfl rfl rfl hl.1 (Nat.le_of_ble_eq_true rfl) dX4_order_78 (by rw [hR]; exact ⟨Nat.zero_le _, Nat.zero_le _⟩) (fun H locs hM hS => ?_)
  skip
  exact mr_iret (v := fX4_widest (fX4_layAfter I b 176) b (fX4_openSet (fX4_layAfter I b 176) b)) C0 hr hlk hQ hS rfl hM (Nat.le_refl _) (Nat.le_refl _) dX4_order_81
set_option maxHeartbeats 4000000 in
set_option maxRecDepth 100000 in
theorem ctX4_order_d3 {l : Launch} {D : va_G} {T : Nat → ClassId} {L : List Nat} {A : Nat → Prop} {Sh : hm_S} {I : hm_I} {J : hm_J} {b : Nat} (hMo : IsM L Sh b) (ho : fX4_isOrder I b ((-1)) = true) :
    Ct l yX4_order wsX4_order { frames := 2, cells := 0, slots := 0, locals := 45 } 0 0 D T A [.ref b, .int (-1), .int (nI 3)] (hm D T L A Sh I J) (some (.int (fX4_first (fX4_layAfter I b 176) b (fX4_openSet (fX4_layAfter I b 176) b)))) (hm D T L A Sh (fX4_layAfter I b 176) J) := by
  refine Ct.ofW (cc := cX4_order) (maxL := 4) (ret := (some .int)) (by decide) rfl (Nat.le_of_ble_eq_true rfl) ?_
  intro p_ e_ s_ m_ args_ below_ meth_ c_ ls R Qq hR hQ C0 hr hlk hname hM hl
  have hx := C0.1.1
  have hb := C0.1.2.1
  have hS : va_S A s_.heap s_.heap [] := va_S.rf
  have hl : lv_has ls 4 [(0, .ref b), (1, .int (-1)), (2, .int (nI 3))] := hl
  refine lv_aload_n hx hb dX4_order_0 rfl (lv_at hl 0 rfl) ?_
  refine lv_iload_n hx hb dX4_order_1 rfl (lv_at hl 1 rfl) ?_
  refine mr_callV (As := [.int (-1)]) C0 (ctX4_isOrder (I := I) (J := J) (b := b) (e0 := (-1)) hMo) (cwV 1 C0.1.2.2.2.2 gX4_order_X4_isOrder rfl rfl rfl (by decide +kernel) (by rw [hR]; exact ⟨Nat.le_of_ble_eq_true rfl, Nat.le_of_ble_eq_true rfl⟩)) hM hMo.1.1 hMo.1.2 rfl rfl hM hS rfl rfl rfl hl.1 (Nat.le_of_ble_eq_true rfl) dX4_order_2 (by rw [hR]; exact ⟨Nat.zero_le _, Nat.zero_le _⟩) (fun H locs hM hS => ?_)
  refine mr_eqB (tgt := 17) C0 dX4_order_5 (by decide) (fun c1 => absurd c1 (by rw [ho]; decide)) (fun c1 => ?_)
  refine lv_iload_n hx hb dX4_order_8 rfl (lv_at hl 2 rfl) ?_
  refine lv_iconst (v := nI 0) hx hb dX4_order_9 (by decide) ?_
  refine lv_iconst (v := nI 4) hx hb dX4_order_10 (by decide) ?_
  refine mr_callS (As := [.int (nI 3), .int (nI 0), .int (nI 4)]) C0 (ctX4_isIn (I := I) (J := J) (v := (nI 3)) (lo := (nI 0)) (up := (nI 4)) ) (va_cwS 3 C0.1.2.2.2.2 gX4_order_X4_isIn rfl rfl rfl (by decide +kernel) (by rw [hR]; exact ⟨Nat.le_of_ble_eq_true rfl, Nat.le_of_ble_eq_true rfl⟩)) hM hS rfl rfl rfl hl.1 (Nat.le_of_ble_eq_true rfl) dX4_order_11 (by rw [hR]; exact ⟨Nat.zero_le _, Nat.zero_le _⟩) (fun H locs hM hS => ?_)
  refine mr_neB (tgt := 19) C0 dX4_order_14 (by decide) (fun c2 => ?_) (fun c2 => absurd c2 (by decide))
  refine lv_aload_n hx hb dX4_order_19 rfl (lv_at hl 0 rfl) ?_
  refine lv_iload_n hx hb dX4_order_20 rfl (lv_at hl 1 rfl) ?_
  refine mr_callS (As := [.int (-1)]) C0 (ctX4_orderOf_d (I := I) (J := J) ) (va_cwS 1 C0.1.2.2.2.2 gX4_order_X4_orderOf rfl rfl rfl (by decide +kernel) (by rw [hR]; exact ⟨Nat.le_of_ble_eq_true rfl, Nat.le_of_ble_eq_true rfl⟩)) hM hS rfl rfl rfl hl.1 (Nat.le_of_ble_eq_true rfl) dX4_order_21 (by rw [hR]; exact ⟨Nat.zero_le _, Nat.zero_le _⟩) (fun H locs hM hS => ?_)
  refine mr_callV (As := [.int (nI 176)]) C0 (ctX4_layAfter (I := I) (J := J) (b := b) (o := 176) hMo (by omega)) (cwV 1 C0.1.2.2.2.2 gX4_order_X4_layAfter rfl rfl rfl (by decide +kernel) (by rw [hR]; exact ⟨Nat.le_of_ble_eq_true rfl, Nat.le_of_ble_eq_true rfl⟩)) hM hMo.1.1 hMo.1.2 rfl rfl hM hS rfl rfl rfl hl.1 (Nat.le_of_ble_eq_true rfl) dX4_order_24 (by rw [hR]; exact ⟨Nat.zero_le _, Nat.zero_le _⟩) (fun H locs hM hS => ?_)
  refine lv_aload_n hx hb dX4_order_27 rfl (lv_at hl 0 rfl) ?_
  refine mr_callV (As := []) C0 (ctX4_openSet (I := (fX4_layAfter I b 176)) (J := J) (b := b) hMo) (cwV 0 C0.1.2.2.2.2 gX4_order_X4_openSet rfl rfl rfl (by decide +kernel) (by rw [hR]; exact ⟨Nat.le_of_ble_eq_true rfl, Nat.le_of_ble_eq_true rfl⟩)) hM hMo.1.1 hMo.1.2 rfl rfl hM hS rfl rfl rfl hl.1 (Nat.le_of_ble_eq_true rfl) dX4_order_28 (by rw [hR]; exact ⟨Nat.zero_le _, Nat.zero_le _⟩) (fun H locs hM hS => ?_)
  refine lv_istore_n (lv' := [(3, .int (fX4_openSet (fX4_layAfter I b 176) b)), (0, .ref b), (1, .int (-1)), (2, .int (nI 3))]) hx hb dX4_order_31 rfl hl (by decide) rfl (fun ls hl => ?_)
  refine lv_iload_n hx hb dX4_order_32 rfl (lv_at hl 3 rfl) ?_
  refine lv_tableIn (off := 49) (tgt := 82) hx hb dX4_order_33 (by decide) (by decide) (by decide) (by decide) ?_
  refine lv_aload_n hx hb dX4_order_82 rfl (lv_at hl 1 rfl) ?_
  refine lv_iload_n hx hb dX4_order_83 rfl (lv_at hl 0 rfl) ?_
  refine mr_callV (As := [.int (fX4_openSet (fX4_layAfter I b 176) b)]) C0 (ctX4_first (I := (fX4_layAfter I b 176)) (J := J) (b := b) (u := (fX4_openSet (fX4_layAfter I b 176) b)) hMo) (cwV 1 C0.1.2.2.2.2 gX4_order_X4_first rfl rfl rfl (by decide +kernel) (by rw [hR]; exact ⟨Nat.le_of_ble_eq_true rfl, Nat.le_of_ble_eq_true rfl⟩)) hM hMo.1.1 hMo.1.2 rfl rfl hM hS rfl rfl rfl hl.1 (Nat.le_of_ble_eq_true rfl) dX4_order_84 (by rw [hR]; exact ⟨Nat.zero_le _, Nat.zero_le _⟩) (fun H locs hM hS => ?_)
  skip
  exact mr_iret (v := fX4_first (fX4_layAfter I b 176) b (fX4_openSet (fX4_layAfter I b 176) b)) C0 hr hlk hQ hS rfl hM (Nat.le_refl _) (Nat.le_refl _) dX4_order_87
set_option maxHeartbeats 4000000 in
set_option maxRecDepth 100000 in
theorem ctX4_order_d4 {l : Launch} {D : va_G} {T : Nat → ClassId} {L : List Nat} {A : Nat → Prop} {Sh : hm_S} {I : hm_I} {J : hm_J} {b : Nat} (hMo : IsM L Sh b) (ho : fX4_isOrder I b ((-1)) = true) :
    Ct l yX4_order wsX4_order { frames := 2, cells := 0, slots := 0, locals := 47 } 0 0 D T A [.ref b, .int (-1), .int (nI 4)] (hm D T L A Sh I J) (some (.int (fX4_superfluous (fX4_layAfter I b 176) b 176))) (hm D T L A Sh (fX4_layAfter I b 176) J) := by
  refine Ct.ofW (cc := cX4_order) (maxL := 4) (ret := (some .int)) (by decide) rfl (Nat.le_of_ble_eq_true rfl) ?_
  intro p_ e_ s_ m_ args_ below_ meth_ c_ ls R Qq hR hQ C0 hr hlk hname hM hl
  have hx := C0.1.1
  have hb := C0.1.2.1
  have hS : va_S A s_.heap s_.heap [] := va_S.rf
  have hl : lv_has ls 4 [(0, .ref b), (1, .int (-1)), (2, .int (nI 4))] := hl
  refine lv_aload_n hx hb dX4_order_0 rfl (lv_at hl 0 rfl) ?_
  refine lv_iload_n hx hb dX4_order_1 rfl (lv_at hl 1 rfl) ?_
  refine mr_callV (As := [.int (-1)]) C0 (ctX4_isOrder (I := I) (J := J) (b := b) (e0 := (-1)) hMo) (cwV 1 C0.1.2.2.2.2 gX4_order_X4_isOrder rfl rfl rfl (by decide +kernel) (by rw [hR]; exact ⟨Nat.le_of_ble_eq_true rfl, Nat.le_of_ble_eq_true rfl⟩)) hM hMo.1.1 hMo.1.2 rfl rfl hM hS rfl rfl rfl hl.1 (Nat.le_of_ble_eq_true rfl) dX4_order_2 (by rw [hR]; exact ⟨Nat.zero_le _, Nat.zero_le _⟩) (fun H locs hM hS => ?_)
  refine mr_eqB (tgt := 17) C0 dX4_order_5 (by decide) (fun c1 => absurd c1 (by rw [ho]; decide)) (fun c1 => ?_)
  refine lv_iload_n hx hb dX4_order_8 rfl (lv_at hl 2 rfl) ?_
  refine lv_iconst (v := nI 0) hx hb dX4_order_9 (by decide) ?_
  refine lv_iconst (v := nI 4) hx hb dX4_order_10 (by decide) ?_
  refine mr_callS (As := [.int (nI 4), .int (nI 0), .int (nI 4)]) C0 (ctX4_isIn (I := I) (J := J) (v := (nI 4)) (lo := (nI 0)) (up := (nI 4)) ) (va_cwS 3 C0.1.2.2.2.2 gX4_order_X4_isIn rfl rfl rfl (by decide +kernel) (by rw [hR]; exact ⟨Nat.le_of_ble_eq_true rfl, Nat.le_of_ble_eq_true rfl⟩)) hM hS rfl rfl rfl hl.1 (Nat.le_of_ble_eq_true rfl) dX4_order_11 (by rw [hR]; exact ⟨Nat.zero_le _, Nat.zero_le _⟩) (fun H locs hM hS => ?_)
  refine mr_neB (tgt := 19) C0 dX4_order_14 (by decide) (fun c2 => ?_) (fun c2 => absurd c2 (by decide))
  refine lv_aload_n hx hb dX4_order_19 rfl (lv_at hl 0 rfl) ?_
  refine lv_iload_n hx hb dX4_order_20 rfl (lv_at hl 1 rfl) ?_
  refine mr_callS (As := [.int (-1)]) C0 (ctX4_orderOf_d (I := I) (J := J) ) (va_cwS 1 C0.1.2.2.2.2 gX4_order_X4_orderOf rfl rfl rfl (by decide +kernel) (by rw [hR]; exact ⟨Nat.le_of_ble_eq_true rfl, Nat.le_of_ble_eq_true rfl⟩)) hM hS rfl rfl rfl hl.1 (Nat.le_of_ble_eq_true rfl) dX4_order_21 (by rw [hR]; exact ⟨Nat.zero_le _, Nat.zero_le _⟩) (fun H locs hM hS => ?_)
  refine mr_callV (As := [.int (nI 176)]) C0 (ctX4_layAfter (I := I) (J := J) (b := b) (o := 176) hMo (by omega)) (cwV 1 C0.1.2.2.2.2 gX4_order_X4_layAfter rfl rfl rfl (by decide +kernel) (by rw [hR]; exact ⟨Nat.le_of_ble_eq_true rfl, Nat.le_of_ble_eq_true rfl⟩)) hM hMo.1.1 hMo.1.2 rfl rfl hM hS rfl rfl rfl hl.1 (Nat.le_of_ble_eq_true rfl) dX4_order_24 (by rw [hR]; exact ⟨Nat.zero_le _, Nat.zero_le _⟩) (fun H locs hM hS => ?_)
  refine lv_aload_n hx hb dX4_order_27 rfl (lv_at hl 0 rfl) ?_
  refine mr_callV (As := []) C0 (ctX4_openSet (I := (fX4_layAfter I b 176)) (J := J) (b := b) hMo) (cwV 0 C0.1.2.2.2.2 gX4_order_X4_openSet rfl rfl rfl (by decide +kernel) (by rw [hR]; exact ⟨Nat.le_of_ble_eq_true rfl, Nat.le_of_ble_eq_true rfl⟩)) hM hMo.1.1 hMo.1.2 rfl rfl hM hS rfl rfl rfl hl.1 (Nat.le_of_ble_eq_true rfl) dX4_order_28 (by rw [hR]; exact ⟨Nat.zero_le _, Nat.zero_le _⟩) (fun H locs hM hS => ?_)
  refine lv_istore_n (lv' := [(3, .int (fX4_openSet (fX4_layAfter I b 176) b)), (0, .ref b), (1, .int (-1)), (2, .int (nI 4))]) hx hb dX4_order_31 rfl hl (by decide) rfl (fun ls hl => ?_)
  refine lv_iload_n hx hb dX4_order_32 rfl (lv_at hl 3 rfl) ?_
  refine lv_tableOut (tgt := 88) hx hb dX4_order_33 (by decide) (by decide) ?_
  refine lv_aload_n hx hb dX4_order_88 rfl (lv_at hl 1 rfl) ?_
  refine lv_iload_n hx hb dX4_order_89 rfl (lv_at hl 2 rfl) ?_
  refine mr_callS (As := [.int (-1)]) C0 (ctX4_orderOf_d (I := (fX4_layAfter I b 176)) (J := J) ) (va_cwS 1 C0.1.2.2.2.2 gX4_order_X4_orderOf rfl rfl rfl (by decide +kernel) (by rw [hR]; exact ⟨Nat.le_of_ble_eq_true rfl, Nat.le_of_ble_eq_true rfl⟩)) hM hS rfl rfl rfl hl.1 (Nat.le_of_ble_eq_true rfl) dX4_order_90 (by rw [hR]; exact ⟨Nat.zero_le _, Nat.zero_le _⟩) (fun H locs hM hS => ?_)
  refine mr_callV (As := [.int (nI 176)]) C0 (ctX4_superfluous (I := (fX4_layAfter I b 176)) (J := J) (b := b) (o := 176) hMo (by omega)) (cwV 1 C0.1.2.2.2.2 gX4_order_X4_superfluous rfl rfl rfl (by decide +kernel) (by rw [hR]; exact ⟨Nat.le_of_ble_eq_true rfl, Nat.le_of_ble_eq_true rfl⟩)) hM hMo.1.1 hMo.1.2 rfl rfl hM hS rfl rfl rfl hl.1 (Nat.le_of_ble_eq_true rfl) dX4_order_93 (by rw [hR]; exact ⟨Nat.zero_le _, Nat.zero_le _⟩) (fun H locs hM hS => ?_)
  skip
  exact mr_iret (v := fX4_superfluous (fX4_layAfter I b 176) b 176) C0 hr hlk hQ hS rfl hM (Nat.le_refl _) (Nat.le_refl _) dX4_order_96
def fX4_lists_d (I : hm_I) (J : hm_J) (b u0 : Nat) : Int64 × hm_I × hm_J :=
  ((lp 255 (fun i34 x34 => (lp 8 (fun i51 x51 => if (nI (i34 + 1)) &&& ((nI u0) ^^^ (-1)) = 0 then if fX4_has (nI (i34 + 1)) (nI i51) = true then if ((fX4_layAfter I b 176) (b + 4) i51) &&& (nI (i34 + 1)) = 0 then hm_putJ x51 (b + 8) (i34 + 1) ((x51 (b + 8) (i34 + 1)) + (x51 (b + 8) (((nI (i34 + 1)) &&& (((nI 1) <<< ((nI i51) &&& 31)) ^^^ (-1))).toNatClampNeg))) else hm_putJ x51 (b + 8) (i34 + 1) ((x51 (b + 8) (i34 + 1)) + 0) else hm_putJ x51 (b + 8) (i34 + 1) ((x51 (b + 8) (i34 + 1)) + 0) else hm_putJ x51 (b + 8) (i34 + 1) ((x51 (b + 8) (i34 + 1)) + 0)) (hm_putJ x34 (b + 8) (i34 + 1) 0))) (hm_putJ J (b + 8) 0 1)) (b + 8) u0, fX4_layAfter I b 176, (lp 255 (fun i34 x34 => (lp 8 (fun i51 x51 => if (nI (i34 + 1)) &&& ((nI u0) ^^^ (-1)) = 0 then if fX4_has (nI (i34 + 1)) (nI i51) = true then if ((fX4_layAfter I b 176) (b + 4) i51) &&& (nI (i34 + 1)) = 0 then hm_putJ x51 (b + 8) (i34 + 1) ((x51 (b + 8) (i34 + 1)) + (x51 (b + 8) (((nI (i34 + 1)) &&& (((nI 1) <<< ((nI i51) &&& 31)) ^^^ (-1))).toNatClampNeg))) else hm_putJ x51 (b + 8) (i34 + 1) ((x51 (b + 8) (i34 + 1)) + 0) else hm_putJ x51 (b + 8) (i34 + 1) ((x51 (b + 8) (i34 + 1)) + 0) else hm_putJ x51 (b + 8) (i34 + 1) ((x51 (b + 8) (i34 + 1)) + 0)) (hm_putJ x34 (b + 8) (i34 + 1) 0))) (hm_putJ J (b + 8) 0 1)))
set_option maxHeartbeats 4000000 in
set_option maxRecDepth 100000 in
theorem ctX4_lists_d {l : Launch} {D : va_G} {T : Nat → ClassId} {L : List Nat} {A : Nat → Prop} {Sh : hm_S} {I : hm_I} {J : hm_J} {b : Nat} (hMo : IsM L Sh b) (ho : fX4_isOrder I b ((-1)) = true) {u0 : Nat} (hu0 : u0 < 256) (hset : fX4_openSet (fX4_layAfter I b 176) b = nI u0) :
    Ct l yX4_lists wsX4_lists { frames := 2, cells := 0, slots := 0, locals := 44 } 0 0 D T A [.ref b, .int (-1)] (hm D T L A Sh I J) (some (.long ((fX4_lists_d I J b u0).1))) (hm D T L A Sh ((fX4_lists_d I J b u0).2.1) ((fX4_lists_d I J b u0).2.2)) := by
  refine Ct.ofW (cc := cX4_lists) (maxL := 6) (ret := (some .long)) (by decide) rfl (Nat.le_of_ble_eq_true rfl) ?_
  intro p_ e_ s_ m_ args_ below_ meth_ c_ ls R Qq hR hQ C0 hr hlk hname hM hl
  have hx := C0.1.1
  have hb := C0.1.2.1
  have hS : va_S A s_.heap s_.heap [] := va_S.rf
  have hl : lv_has ls 6 [(0, .ref b), (1, .int (-1))] := hl
  refine lv_aload_n hx hb dX4_lists_0 rfl (lv_at hl 0 rfl) ?_
  refine lv_iload_n hx hb dX4_lists_1 rfl (lv_at hl 1 rfl) ?_
  refine mr_callV (As := [.int (-1)]) C0 (ctX4_isOrder (I := I) (J := J) (b := b) (e0 := (-1)) hMo) (cwV 1 C0.1.2.2.2.2 gX4_lists_X4_isOrder rfl rfl rfl (by decide +kernel) (by rw [hR]; exact ⟨Nat.le_of_ble_eq_true rfl, Nat.le_of_ble_eq_true rfl⟩)) hM hMo.1.1 hMo.1.2 rfl rfl hM hS rfl rfl rfl hl.1 (Nat.le_of_ble_eq_true rfl) dX4_lists_2 (by rw [hR]; exact ⟨Nat.zero_le _, Nat.zero_le _⟩) (fun H locs hM hS => ?_)
  refine mr_neB (tgt := 12) C0 dX4_lists_5 (by decide) (fun c1 => ?_) (fun c1 => absurd c1 (by rw [ho]; decide))
  refine lv_aload_n hx hb dX4_lists_12 rfl (lv_at hl 0 rfl) ?_
  refine lv_iload_n hx hb dX4_lists_13 rfl (lv_at hl 1 rfl) ?_
  refine mr_callS (As := [.int (-1)]) C0 (ctX4_orderOf_d (I := I) (J := J) ) (va_cwS 1 C0.1.2.2.2.2 gX4_lists_X4_orderOf rfl rfl rfl (by decide +kernel) (by rw [hR]; exact ⟨Nat.le_of_ble_eq_true rfl, Nat.le_of_ble_eq_true rfl⟩)) hM hS rfl rfl rfl hl.1 (Nat.le_of_ble_eq_true rfl) dX4_lists_14 (by rw [hR]; exact ⟨Nat.zero_le _, Nat.zero_le _⟩) (fun H locs hM hS => ?_)
  refine mr_callV (As := [.int (nI 176)]) C0 (ctX4_layAfter (I := I) (J := J) (b := b) (o := 176) hMo (by omega)) (cwV 1 C0.1.2.2.2.2 gX4_lists_X4_layAfter rfl rfl rfl (by decide +kernel) (by rw [hR]; exact ⟨Nat.le_of_ble_eq_true rfl, Nat.le_of_ble_eq_true rfl⟩)) hM hMo.1.1 hMo.1.2 rfl rfl hM hS rfl rfl rfl hl.1 (Nat.le_of_ble_eq_true rfl) dX4_lists_17 (by rw [hR]; exact ⟨Nat.zero_le _, Nat.zero_le _⟩) (fun H locs hM hS => ?_)
  refine lv_aload_n hx hb dX4_lists_20 rfl (lv_at hl 0 rfl) ?_
  refine mr_callV (As := []) C0 (ctX4_openSet (I := (fX4_layAfter I b 176)) (J := J) (b := b) hMo) (cwV 0 C0.1.2.2.2.2 gX4_lists_X4_openSet rfl rfl rfl (by decide +kernel) (by rw [hR]; exact ⟨Nat.le_of_ble_eq_true rfl, Nat.le_of_ble_eq_true rfl⟩)) hM hMo.1.1 hMo.1.2 rfl rfl hM hS rfl rfl rfl hl.1 (Nat.le_of_ble_eq_true rfl) dX4_lists_21 (by rw [hR]; exact ⟨Nat.zero_le _, Nat.zero_le _⟩) (fun H locs hM hS => ?_)
  refine mr_top (y := nI u0) hset ?_
  refine lv_istore_n (lv' := [(2, .int (nI u0)), (0, .ref b), (1, .int (-1))]) hx hb dX4_lists_24 rfl hl (by decide) rfl (fun ls hl => ?_)
  refine lv_aload_n hx hb dX4_lists_25 rfl (lv_at hl 1 rfl) ?_
  refine mr_getr (r := b + 8) (TT := TX4) (N := 10) C0 uX4_lists_X4 hM hMo.1.1 hMo.1.2 rfl 9 (by decide) rfl kX4_lists_f31 rfl dX4_lists_26 ?_
  refine lv_iconst (v := nI 0) hx hb dX4_lists_29 (by decide) ?_
  refine lv_lconst (v := 1) hx hb dX4_lists_30 (by decide) ?_
  refine mr_lastN C0 hM hS hMo.2.2.2.2.2.2.2.2.1 hMo.2.2.2.2.2.2.2.2.2 (by decide) (by decide) dX4_lists_31 (fun H locs hM hS => ?_)
  refine lv_iconst (v := nI 1) hx hb dX4_lists_32 (by decide) ?_
  refine lv_istore_n (lv' := [(3, .int (nI 1)), (2, .int (nI u0)), (0, .ref b), (1, .int (-1))]) hx hb dX4_lists_33 rfl hl (by decide) rfl (fun ls hl => ?_)
  refine lp_loop (σ := hm_J) (fun i34 x34 => ∀ (H : Heap) (locs : List Loc) (ls : Array Slot), hm D T L A Sh (fX4_layAfter I b 176) x34 H → va_S A s_.heap H locs → lv_has ls 6 [(0, .ref b), (2, .int (nI u0)), (3, .int (nI (i34 + 1)))] → W p_ l e_ R s_ m_ args_ below_ meth_ c_ H locs 0 0 Qq (F0 m_ 34 ls [])) 255 (fun i34 x34 => (lp 8 (fun i51 x51 => if (nI (i34 + 1)) &&& ((nI u0) ^^^ (-1)) = 0 then if fX4_has (nI (i34 + 1)) (nI i51) = true then if ((fX4_layAfter I b 176) (b + 4) i51) &&& (nI (i34 + 1)) = 0 then hm_putJ x51 (b + 8) (i34 + 1) ((x51 (b + 8) (i34 + 1)) + (x51 (b + 8) (((nI (i34 + 1)) &&& (((nI 1) <<< ((nI i51) &&& 31)) ^^^ (-1))).toNatClampNeg))) else hm_putJ x51 (b + 8) (i34 + 1) ((x51 (b + 8) (i34 + 1)) + 0) else hm_putJ x51 (b + 8) (i34 + 1) ((x51 (b + 8) (i34 + 1)) + 0) else hm_putJ x51 (b + 8) (i34 + 1) ((x51 (b + 8) (i34 + 1)) + 0)) (hm_putJ x34 (b + 8) (i34 + 1) 0))) (hm_putJ J (b + 8) 0 1) (fun _ _ => True) trivial (fun _ _ _ _ => trivial) (fun i34 x34 hi2 hv3 k4 H locs ls hM hS hl => ?_) (fun hv3 H locs ls hM hS hl => ?_) _ _ _ hM hS (lv_sub hl [2, 1, 0] rfl)
  · have stp5 : ∀ yy_ : hm_J, yy_ = ((lp 8 (fun i51 x51 => if (nI (i34 + 1)) &&& ((nI u0) ^^^ (-1)) = 0 then if fX4_has (nI (i34 + 1)) (nI i51) = true then if ((fX4_layAfter I b 176) (b + 4) i51) &&& (nI (i34 + 1)) = 0 then hm_putJ x51 (b + 8) (i34 + 1) ((x51 (b + 8) (i34 + 1)) + (x51 (b + 8) (((nI (i34 + 1)) &&& (((nI 1) <<< ((nI i51) &&& 31)) ^^^ (-1))).toNatClampNeg))) else hm_putJ x51 (b + 8) (i34 + 1) ((x51 (b + 8) (i34 + 1)) + 0) else hm_putJ x51 (b + 8) (i34 + 1) ((x51 (b + 8) (i34 + 1)) + 0) else hm_putJ x51 (b + 8) (i34 + 1) ((x51 (b + 8) (i34 + 1)) + 0)) (hm_putJ x34 (b + 8) (i34 + 1) 0))) → ∀ (H : Heap) (locs : List Loc) (ls : Array Slot), hm D T L A Sh (fX4_layAfter I b 176) yy_ H → va_S A s_.heap H locs → lv_has ls 6 [(0, .ref b), (2, .int (nI u0)), (3, .int (nI ((i34 + 1) + 1)))] → W p_ l e_ R s_ m_ args_ below_ meth_ c_ H locs 0 0 Qq (F0 m_ 34 ls []) := fun yy_ ey => by rw [ey]; exact k4
    refine lv_iload_n hx hb dX4_lists_34 rfl (lv_at hl 2 rfl) ?_
    refine lv_sipush (v := nI 256) hx hb dX4_lists_35 (by decide) ?_
    refine mr_geN (x := i34 + 1) (y := 256) (tgt := 137) C0 dX4_lists_38 (by decide) (by omega) (by omega) (fun c6 => absurd c6 (by omega)) (fun c6 => ?_)
    refine lv_aload_n hx hb dX4_lists_41 rfl (lv_at hl 0 rfl) ?_
    refine mr_getr (r := b + 8) (TT := TX4) (N := 10) C0 uX4_lists_X4 hM hMo.1.1 hMo.1.2 rfl 9 (by decide) rfl kX4_lists_f31 rfl dX4_lists_42 ?_
    refine lv_iload_n hx hb dX4_lists_45 rfl (lv_at hl 2 rfl) ?_
    refine lv_lconst (v := 0) hx hb dX4_lists_46 (by decide) ?_
    refine mr_lastN C0 hM hS hMo.2.2.2.2.2.2.2.2.1 hMo.2.2.2.2.2.2.2.2.2 (by decide) (by omega) dX4_lists_47 (fun H locs hM hS => ?_)
    refine lv_iconst (v := nI 0) hx hb dX4_lists_48 (by decide) ?_
    refine lv_istore (lv' := [(4, .int (nI 0)), (0, .ref b), (2, .int (nI u0)), (3, .int (nI (i34 + 1)))]) hx hb dX4_lists_49 hl (by decide) rfl (fun ls hl => ?_)
    refine lp_loop (σ := hm_J) (fun i51 x51 => ∀ (H : Heap) (locs : List Loc) (ls : Array Slot), hm D T L A Sh (fX4_layAfter I b 176) x51 H → va_S A s_.heap H locs → lv_has ls 6 [(0, .ref b), (2, .int (nI u0)), (3, .int (nI (i34 + 1))), (4, .int (nI i51))] → W p_ l e_ R s_ m_ args_ below_ meth_ c_ H locs 0 0 Qq (F0 m_ 51 ls [])) 8 (fun i51 x51 => if (nI (i34 + 1)) &&& ((nI u0) ^^^ (-1)) = 0 then if fX4_has (nI (i34 + 1)) (nI i51) = true then if ((fX4_layAfter I b 176) (b + 4) i51) &&& (nI (i34 + 1)) = 0 then hm_putJ x51 (b + 8) (i34 + 1) ((x51 (b + 8) (i34 + 1)) + (x51 (b + 8) (((nI (i34 + 1)) &&& (((nI 1) <<< ((nI i51) &&& 31)) ^^^ (-1))).toNatClampNeg))) else hm_putJ x51 (b + 8) (i34 + 1) ((x51 (b + 8) (i34 + 1)) + 0) else hm_putJ x51 (b + 8) (i34 + 1) ((x51 (b + 8) (i34 + 1)) + 0) else hm_putJ x51 (b + 8) (i34 + 1) ((x51 (b + 8) (i34 + 1)) + 0)) (hm_putJ x34 (b + 8) (i34 + 1) 0) (fun _ _ => True) trivial (fun _ _ _ _ => trivial) (fun i51 x51 hi7 hv8 k9 H locs ls hM hS hl => ?_) (fun hv8 H locs ls hM hS hl => ?_) _ _ _ hM hS (lv_sub hl [1, 2, 3, 0] rfl)
    · have stp10 : ∀ yy_ : hm_J, yy_ = (if (nI (i34 + 1)) &&& ((nI u0) ^^^ (-1)) = 0 then if fX4_has (nI (i34 + 1)) (nI i51) = true then if ((fX4_layAfter I b 176) (b + 4) i51) &&& (nI (i34 + 1)) = 0 then hm_putJ x51 (b + 8) (i34 + 1) ((x51 (b + 8) (i34 + 1)) + (x51 (b + 8) (((nI (i34 + 1)) &&& (((nI 1) <<< ((nI i51) &&& 31)) ^^^ (-1))).toNatClampNeg))) else hm_putJ x51 (b + 8) (i34 + 1) ((x51 (b + 8) (i34 + 1)) + 0) else hm_putJ x51 (b + 8) (i34 + 1) ((x51 (b + 8) (i34 + 1)) + 0) else hm_putJ x51 (b + 8) (i34 + 1) ((x51 (b + 8) (i34 + 1)) + 0)) → ∀ (H : Heap) (locs : List Loc) (ls : Array Slot), hm D T L A Sh (fX4_layAfter I b 176) yy_ H → va_S A s_.heap H locs → lv_has ls 6 [(0, .ref b), (2, .int (nI u0)), (3, .int (nI (i34 + 1))), (4, .int (nI (i51 + 1)))] → W p_ l e_ R s_ m_ args_ below_ meth_ c_ H locs 0 0 Qq (F0 m_ 51 ls []) := fun yy_ ey => by rw [ey]; exact k9
      refine lv_iload hx hb dX4_lists_51 (lv_at hl 3 rfl) ?_
      refine lv_bipush (v := nI 8) hx hb dX4_lists_53 (by decide) ?_
      refine mr_geN (x := i51) (y := 8) (tgt := 131) C0 dX4_lists_55 (by decide) (by omega) (by omega) (fun c11 => absurd c11 (by omega)) (fun c11 => ?_)
      refine lv_iload_n hx hb dX4_lists_58 rfl (lv_at hl 2 rfl) ?_
      refine lv_iload_n hx hb dX4_lists_59 rfl (lv_at hl 1 rfl) ?_
      refine lv_iconst (v := (-1)) hx hb dX4_lists_60 (by decide) ?_
      refine lv_ixor hx hb dX4_lists_61 ?_
      refine lv_iand hx hb dX4_lists_62 ?_
      refine lv_if_ne (tgt := 91) hx hb dX4_lists_63 (by decide) (fun c12 => ?_) (fun c12 => ?_)
      · skip
        refine lv_iconst (v := nI 0) hx hb dX4_lists_91 (by decide) ?_
        refine lv_istore (lv' := [(5, .int (nI 0)), (0, .ref b), (2, .int (nI u0)), (3, .int (nI (i34 + 1))), (4, .int (nI i51))]) hx hb dX4_lists_92 hl (by decide) rfl (fun ls hl => ?_)
        refine lv_aload_n hx hb dX4_lists_94 rfl (lv_at hl 1 rfl) ?_
        refine mr_getr (r := b + 8) (TT := TX4) (N := 10) C0 uX4_lists_X4 hM hMo.1.1 hMo.1.2 rfl 9 (by decide) rfl kX4_lists_f31 rfl dX4_lists_95 ?_
        refine lv_iload_n hx hb dX4_lists_98 rfl (lv_at hl 3 rfl) ?_
        refine lv_dup2_11 hx hb dX4_lists_99 rfl rfl ?_
        refine mr_laldN (v := x51 (b + 8) (i34 + 1)) C0 hM hMo.2.2.2.2.2.2.2.2.1 hMo.2.2.2.2.2.2.2.2.2 (by decide) (by omega) rfl dX4_lists_100 ?_
        refine lv_iload hx hb dX4_lists_101 (lv_at hl 0 rfl) ?_
        refine lv_if_eq (x := nI 0) (tgt := 122) hx hb dX4_lists_103 (by decide) (fun _ => ?_) (fun c13 => absurd c13 (by decide))
        refine lv_lconst (v := 0) hx hb dX4_lists_122 (by decide) ?_
        refine lv_ladd hx hb dX4_lists_123 ?_
        refine mr_lastN C0 hM hS hMo.2.2.2.2.2.2.2.2.1 hMo.2.2.2.2.2.2.2.2.2 (by decide) (by omega) dX4_lists_124 (fun H locs hM hS => ?_)
        refine lv_iinc (v := nI (i51 + 1)) (lv' := [(4, .int (nI (i51 + 1))), (5, .int (nI 0)), (0, .ref b), (2, .int (nI u0)), (3, .int (nI (i34 + 1)))]) hx hb dX4_lists_125 hl (k := 4) rfl (nI_1 _) (by decide) rfl (fun ls hl => ?_)
        refine lv_goto (tgt := 51) hx hb dX4_lists_128 (by decide) ?_
        exact stp10 (hm_putJ x51 (b + 8) (i34 + 1) ((x51 (b + 8) (i34 + 1)) + 0)) (by rw [if_neg c12]) H locs ls hM hS (lv_sub hl [2, 3, 4, 0] rfl)
      · skip
        refine lv_iload_n hx hb dX4_lists_66 rfl (lv_at hl 2 rfl) ?_
        refine lv_iload hx hb dX4_lists_67 (lv_at hl 3 rfl) ?_
        refine mr_callS (As := [.int (nI (i34 + 1)), .int (nI i51)]) C0 (ctX4_has (I := (fX4_layAfter I b 176)) (J := x51) (u := (nI (i34 + 1))) (s0 := (nI i51)) ) (va_cwS 2 C0.1.2.2.2.2 gX4_lists_X4_has rfl rfl rfl (by decide +kernel) (by rw [hR]; exact ⟨Nat.le_of_ble_eq_true rfl, Nat.le_of_ble_eq_true rfl⟩)) hM hS rfl rfl rfl hl.1 (Nat.le_of_ble_eq_true rfl) dX4_lists_69 (by rw [hR]; exact ⟨Nat.zero_le _, Nat.zero_le _⟩) (fun H locs hM hS => ?_)
        refine mr_eqB (tgt := 91) C0 dX4_lists_72 (by decide) (fun c14 => ?_) (fun c14 => ?_)
        · skip
          refine lv_iconst (v := nI 0) hx hb dX4_lists_91 (by decide) ?_
          refine lv_istore (lv' := [(5, .int (nI 0)), (0, .ref b), (2, .int (nI u0)), (3, .int (nI (i34 + 1))), (4, .int (nI i51))]) hx hb dX4_lists_92 hl (by decide) rfl (fun ls hl => ?_)
          refine lv_aload_n hx hb dX4_lists_94 rfl (lv_at hl 1 rfl) ?_
          refine mr_getr (r := b + 8) (TT := TX4) (N := 10) C0 uX4_lists_X4 hM hMo.1.1 hMo.1.2 rfl 9 (by decide) rfl kX4_lists_f31 rfl dX4_lists_95 ?_
          refine lv_iload_n hx hb dX4_lists_98 rfl (lv_at hl 3 rfl) ?_
          refine lv_dup2_11 hx hb dX4_lists_99 rfl rfl ?_
          refine mr_laldN (v := x51 (b + 8) (i34 + 1)) C0 hM hMo.2.2.2.2.2.2.2.2.1 hMo.2.2.2.2.2.2.2.2.2 (by decide) (by omega) rfl dX4_lists_100 ?_
          refine lv_iload hx hb dX4_lists_101 (lv_at hl 0 rfl) ?_
          refine lv_if_eq (x := nI 0) (tgt := 122) hx hb dX4_lists_103 (by decide) (fun _ => ?_) (fun c15 => absurd c15 (by decide))
          refine lv_lconst (v := 0) hx hb dX4_lists_122 (by decide) ?_
          refine lv_ladd hx hb dX4_lists_123 ?_
          refine mr_lastN C0 hM hS hMo.2.2.2.2.2.2.2.2.1 hMo.2.2.2.2.2.2.2.2.2 (by decide) (by omega) dX4_lists_124 (fun H locs hM hS => ?_)
          refine lv_iinc (v := nI (i51 + 1)) (lv' := [(4, .int (nI (i51 + 1))), (5, .int (nI 0)), (0, .ref b), (2, .int (nI u0)), (3, .int (nI (i34 + 1)))]) hx hb dX4_lists_125 hl (k := 4) rfl (nI_1 _) (by decide) rfl (fun ls hl => ?_)
          refine lv_goto (tgt := 51) hx hb dX4_lists_128 (by decide) ?_
          exact stp10 (hm_putJ x51 (b + 8) (i34 + 1) ((x51 (b + 8) (i34 + 1)) + 0)) (by rw [if_pos c12, if_neg (Bool.eq_false_iff.mp c14)]) H locs ls hM hS (lv_sub hl [2, 3, 4, 0] rfl)
        · skip
          refine lv_aload_n hx hb dX4_lists_75 rfl (lv_at hl 0 rfl) ?_
          refine mr_getr (r := b + 4) (TT := TX4) (N := 10) C0 uX4_lists_X4 hM hMo.1.1 hMo.1.2 rfl 5 (by decide) rfl kX4_lists_f19 rfl dX4_lists_76 ?_
          refine lv_iload hx hb dX4_lists_79 (lv_at hl 3 rfl) ?_
          refine mr_ialdN (v := (fX4_layAfter I b 176) (b + 4) i51) C0 hM hMo.2.2.2.2.1.1 hMo.2.2.2.2.1.2 (by decide) (by omega) rfl dX4_lists_81 ?_
          refine lv_iload_n hx hb dX4_lists_82 rfl (lv_at hl 2 rfl) ?_
          refine lv_iand hx hb dX4_lists_83 ?_
          refine lv_if_ne (tgt := 91) hx hb dX4_lists_84 (by decide) (fun c16 => ?_) (fun c16 => ?_)
          · skip
            refine lv_iconst (v := nI 0) hx hb dX4_lists_91 (by decide) ?_
            refine lv_istore (lv' := [(5, .int (nI 0)), (0, .ref b), (2, .int (nI u0)), (3, .int (nI (i34 + 1))), (4, .int (nI i51))]) hx hb dX4_lists_92 hl (by decide) rfl (fun ls hl => ?_)
            refine lv_aload_n hx hb dX4_lists_94 rfl (lv_at hl 1 rfl) ?_
            refine mr_getr (r := b + 8) (TT := TX4) (N := 10) C0 uX4_lists_X4 hM hMo.1.1 hMo.1.2 rfl 9 (by decide) rfl kX4_lists_f31 rfl dX4_lists_95 ?_
            refine lv_iload_n hx hb dX4_lists_98 rfl (lv_at hl 3 rfl) ?_
            refine lv_dup2_11 hx hb dX4_lists_99 rfl rfl ?_
            refine mr_laldN (v := x51 (b + 8) (i34 + 1)) C0 hM hMo.2.2.2.2.2.2.2.2.1 hMo.2.2.2.2.2.2.2.2.2 (by decide) (by omega) rfl dX4_lists_100 ?_
            refine lv_iload hx hb dX4_lists_101 (lv_at hl 0 rfl) ?_
            refine lv_if_eq (x := nI 0) (tgt := 122) hx hb dX4_lists_103 (by decide) (fun _ => ?_) (fun c17 => absurd c17 (by decide))
            refine lv_lconst (v := 0) hx hb dX4_lists_122 (by decide) ?_
            refine lv_ladd hx hb dX4_lists_123 ?_
            refine mr_lastN C0 hM hS hMo.2.2.2.2.2.2.2.2.1 hMo.2.2.2.2.2.2.2.2.2 (by decide) (by omega) dX4_lists_124 (fun H locs hM hS => ?_)
            refine lv_iinc (v := nI (i51 + 1)) (lv' := [(4, .int (nI (i51 + 1))), (5, .int (nI 0)), (0, .ref b), (2, .int (nI u0)), (3, .int (nI (i34 + 1)))]) hx hb dX4_lists_125 hl (k := 4) rfl (nI_1 _) (by decide) rfl (fun ls hl => ?_)
            refine lv_goto (tgt := 51) hx hb dX4_lists_128 (by decide) ?_
            exact stp10 (hm_putJ x51 (b + 8) (i34 + 1) ((x51 (b + 8) (i34 + 1)) + 0)) (by rw [if_pos c12, if_pos c14, if_neg c16]) H locs ls hM hS (lv_sub hl [2, 3, 4, 0] rfl)
          · skip
            refine lv_iconst (v := nI 1) hx hb dX4_lists_87 (by decide) ?_
            refine lv_goto (tgt := 92) hx hb dX4_lists_88 (by decide) ?_
            refine lv_istore (lv' := [(5, .int (nI 1)), (0, .ref b), (2, .int (nI u0)), (3, .int (nI (i34 + 1))), (4, .int (nI i51))]) hx hb dX4_lists_92 hl (by decide) rfl (fun ls hl => ?_)
            refine lv_aload_n hx hb dX4_lists_94 rfl (lv_at hl 1 rfl) ?_
            refine mr_getr (r := b + 8) (TT := TX4) (N := 10) C0 uX4_lists_X4 hM hMo.1.1 hMo.1.2 rfl 9 (by decide) rfl kX4_lists_f31 rfl dX4_lists_95 ?_
            refine lv_iload_n hx hb dX4_lists_98 rfl (lv_at hl 3 rfl) ?_
            refine lv_dup2_11 hx hb dX4_lists_99 rfl rfl ?_
            refine mr_laldN (v := x51 (b + 8) (i34 + 1)) C0 hM hMo.2.2.2.2.2.2.2.2.1 hMo.2.2.2.2.2.2.2.2.2 (by decide) (by omega) rfl dX4_lists_100 ?_
            refine lv_iload hx hb dX4_lists_101 (lv_at hl 0 rfl) ?_
            refine lv_if_eq (x := nI 1) (tgt := 122) hx hb dX4_lists_103 (by decide) (fun c18 => absurd c18 (by decide)) (fun _ => ?_)
            refine lv_aload_n hx hb dX4_lists_106 rfl (lv_at hl 1 rfl) ?_
            refine mr_getr (r := b + 8) (TT := TX4) (N := 10) C0 uX4_lists_X4 hM hMo.1.1 hMo.1.2 rfl 9 (by decide) rfl kX4_lists_f31 rfl dX4_lists_107 ?_
            refine lv_iload_n hx hb dX4_lists_110 rfl (lv_at hl 3 rfl) ?_
            refine lv_iconst (v := nI 1) hx hb dX4_lists_111 (by decide) ?_
            refine lv_iload hx hb dX4_lists_112 (lv_at hl 4 rfl) ?_
            refine lv_ishl hx hb dX4_lists_114 ?_
            refine lv_iconst (v := (-1)) hx hb dX4_lists_115 (by decide) ?_
            refine lv_ixor hx hb dX4_lists_116 ?_
            refine lv_iand hx hb dX4_lists_117 ?_
            have hw19 := clr_lt (u := (i34 + 1)) (by omega) (((nI 1) <<< ((nI i51) &&& 31)) ^^^ (-1))
            refine mr_top (y := nI (((nI (i34 + 1)) &&& (((nI 1) <<< ((nI i51) &&& 31)) ^^^ (-1))).toNatClampNeg)) hw19.2 ?_
            refine mr_laldN (v := x51 (b + 8) (((nI (i34 + 1)) &&& (((nI 1) <<< ((nI i51) &&& 31)) ^^^ (-1))).toNatClampNeg)) C0 hM hMo.2.2.2.2.2.2.2.2.1 hMo.2.2.2.2.2.2.2.2.2 (by decide) (by omega) rfl dX4_lists_118 ?_
            refine lv_goto (tgt := 123) hx hb dX4_lists_119 (by decide) ?_
            refine lv_ladd hx hb dX4_lists_123 ?_
            refine mr_lastN C0 hM hS hMo.2.2.2.2.2.2.2.2.1 hMo.2.2.2.2.2.2.2.2.2 (by decide) (by omega) dX4_lists_124 (fun H locs hM hS => ?_)
            refine lv_iinc (v := nI (i51 + 1)) (lv' := [(4, .int (nI (i51 + 1))), (5, .int (nI 1)), (0, .ref b), (2, .int (nI u0)), (3, .int (nI (i34 + 1)))]) hx hb dX4_lists_125 hl (k := 4) rfl (nI_1 _) (by decide) rfl (fun ls hl => ?_)
            refine lv_goto (tgt := 51) hx hb dX4_lists_128 (by decide) ?_
            exact stp10 (hm_putJ x51 (b + 8) (i34 + 1) ((x51 (b + 8) (i34 + 1)) + (x51 (b + 8) (((nI (i34 + 1)) &&& (((nI 1) <<< ((nI i51) &&& 31)) ^^^ (-1))).toNatClampNeg)))) (by rw [if_pos c12, if_pos c14, if_pos c16]) H locs ls hM hS (lv_sub hl [2, 3, 4, 0] rfl)
    · skip
      refine lv_iload hx hb dX4_lists_51 (lv_at hl 3 rfl) ?_
      refine lv_bipush (v := nI 8) hx hb dX4_lists_53 (by decide) ?_
      refine mr_geN (x := 8) (y := 8) (tgt := 131) C0 dX4_lists_55 (by decide) (by decide) (by decide) (fun _ => ?_) (fun c20 => absurd c20 (by decide))
      refine lv_iinc (v := nI (i34 + 1 + 1)) (lv' := [(3, .int (nI (i34 + 1 + 1))), (0, .ref b), (2, .int (nI u0)), (4, .int (nI 8))]) hx hb dX4_lists_131 hl (k := 2) rfl (nI_1 _) (by decide) rfl (fun ls hl => ?_)
      refine lv_goto (tgt := 34) hx hb dX4_lists_134 (by decide) ?_
      exact stp5 (lp 8 (fun i51 x51 => if (nI (i34 + 1)) &&& ((nI u0) ^^^ (-1)) = 0 then if fX4_has (nI (i34 + 1)) (nI i51) = true then if ((fX4_layAfter I b 176) (b + 4) i51) &&& (nI (i34 + 1)) = 0 then hm_putJ x51 (b + 8) (i34 + 1) ((x51 (b + 8) (i34 + 1)) + (x51 (b + 8) (((nI (i34 + 1)) &&& (((nI 1) <<< ((nI i51) &&& 31)) ^^^ (-1))).toNatClampNeg))) else hm_putJ x51 (b + 8) (i34 + 1) ((x51 (b + 8) (i34 + 1)) + 0) else hm_putJ x51 (b + 8) (i34 + 1) ((x51 (b + 8) (i34 + 1)) + 0) else hm_putJ x51 (b + 8) (i34 + 1) ((x51 (b + 8) (i34 + 1)) + 0)) (hm_putJ x34 (b + 8) (i34 + 1) 0)) rfl H locs ls hM hS (lv_sub hl [1, 2, 0] rfl)
  · skip
    refine lv_iload_n hx hb dX4_lists_34 rfl (lv_at hl 2 rfl) ?_
    refine lv_sipush (v := nI 256) hx hb dX4_lists_35 (by decide) ?_
    refine mr_geN (x := 255 + 1) (y := 256) (tgt := 137) C0 dX4_lists_38 (by decide) (by omega) (by omega) (fun c21 => ?_) (fun c21 => absurd c21 (by omega))
    refine lv_aload_n hx hb dX4_lists_137 rfl (lv_at hl 0 rfl) ?_
    refine mr_getr (r := b + 8) (TT := TX4) (N := 10) C0 uX4_lists_X4 hM hMo.1.1 hMo.1.2 rfl 9 (by decide) rfl kX4_lists_f31 rfl dX4_lists_138 ?_
    refine lv_iload_n hx hb dX4_lists_141 rfl (lv_at hl 1 rfl) ?_
    refine mr_laldN (v := (lp 255 (fun i34 x34 => (lp 8 (fun i51 x51 => if (nI (i34 + 1)) &&& ((nI u0) ^^^ (-1)) = 0 then if fX4_has (nI (i34 + 1)) (nI i51) = true then if ((fX4_layAfter I b 176) (b + 4) i51) &&& (nI (i34 + 1)) = 0 then hm_putJ x51 (b + 8) (i34 + 1) ((x51 (b + 8) (i34 + 1)) + (x51 (b + 8) (((nI (i34 + 1)) &&& (((nI 1) <<< ((nI i51) &&& 31)) ^^^ (-1))).toNatClampNeg))) else hm_putJ x51 (b + 8) (i34 + 1) ((x51 (b + 8) (i34 + 1)) + 0) else hm_putJ x51 (b + 8) (i34 + 1) ((x51 (b + 8) (i34 + 1)) + 0) else hm_putJ x51 (b + 8) (i34 + 1) ((x51 (b + 8) (i34 + 1)) + 0)) (hm_putJ x34 (b + 8) (i34 + 1) 0))) (hm_putJ J (b + 8) 0 1)) (b + 8) u0) C0 hM hMo.2.2.2.2.2.2.2.2.1 hMo.2.2.2.2.2.2.2.2.2 (by decide) (by omega) rfl dX4_lists_142 ?_
    have eF : ((lp 255 (fun i34 x34 => (lp 8 (fun i51 x51 => if (nI (i34 + 1)) &&& ((nI u0) ^^^ (-1)) = 0 then if fX4_has (nI (i34 + 1)) (nI i51) = true then if ((fX4_layAfter I b 176) (b + 4) i51) &&& (nI (i34 + 1)) = 0 then hm_putJ x51 (b + 8) (i34 + 1) ((x51 (b + 8) (i34 + 1)) + (x51 (b + 8) (((nI (i34 + 1)) &&& (((nI 1) <<< ((nI i51) &&& 31)) ^^^ (-1))).toNatClampNeg))) else hm_putJ x51 (b + 8) (i34 + 1) ((x51 (b + 8) (i34 + 1)) + 0) else hm_putJ x51 (b + 8) (i34 + 1) ((x51 (b + 8) (i34 + 1)) + 0) else hm_putJ x51 (b + 8) (i34 + 1) ((x51 (b + 8) (i34 + 1)) + 0)) (hm_putJ x34 (b + 8) (i34 + 1) 0))) (hm_putJ J (b + 8) 0 1)) (b + 8) u0, fX4_layAfter I b 176, (lp 255 (fun i34 x34 => (lp 8 (fun i51 x51 => if (nI (i34 + 1)) &&& ((nI u0) ^^^ (-1)) = 0 then if fX4_has (nI (i34 + 1)) (nI i51) = true then if ((fX4_layAfter I b 176) (b + 4) i51) &&& (nI (i34 + 1)) = 0 then hm_putJ x51 (b + 8) (i34 + 1) ((x51 (b + 8) (i34 + 1)) + (x51 (b + 8) (((nI (i34 + 1)) &&& (((nI 1) <<< ((nI i51) &&& 31)) ^^^ (-1))).toNatClampNeg))) else hm_putJ x51 (b + 8) (i34 + 1) ((x51 (b + 8) (i34 + 1)) + 0) else hm_putJ x51 (b + 8) (i34 + 1) ((x51 (b + 8) (i34 + 1)) + 0) else hm_putJ x51 (b + 8) (i34 + 1) ((x51 (b + 8) (i34 + 1)) + 0)) (hm_putJ x34 (b + 8) (i34 + 1) 0))) (hm_putJ J (b + 8) 0 1))) = fX4_lists_d I J b u0 := rfl
    exact mr_lret (v := (lp 255 (fun i34 x34 => (lp 8 (fun i51 x51 => if (nI (i34 + 1)) &&& ((nI u0) ^^^ (-1)) = 0 then if fX4_has (nI (i34 + 1)) (nI i51) = true then if ((fX4_layAfter I b 176) (b + 4) i51) &&& (nI (i34 + 1)) = 0 then hm_putJ x51 (b + 8) (i34 + 1) ((x51 (b + 8) (i34 + 1)) + (x51 (b + 8) (((nI (i34 + 1)) &&& (((nI 1) <<< ((nI i51) &&& 31)) ^^^ (-1))).toNatClampNeg))) else hm_putJ x51 (b + 8) (i34 + 1) ((x51 (b + 8) (i34 + 1)) + 0) else hm_putJ x51 (b + 8) (i34 + 1) ((x51 (b + 8) (i34 + 1)) + 0) else hm_putJ x51 (b + 8) (i34 + 1) ((x51 (b + 8) (i34 + 1)) + 0)) (hm_putJ x34 (b + 8) (i34 + 1) 0))) (hm_putJ J (b + 8) 0 1)) (b + 8) u0) C0 hr hlk hQ hS (by rw [← eF]) (by rw [← eF]; exact hM) (Nat.le_refl _) (Nat.le_refl _) dX4_lists_143
def fX4_relation_t (I : hm_I) (b a0 b0 : Nat) (e0 : Nat) : Int32 × hm_I :=
  if fX4_has ((fX4_layAfter I b (185 + 8 * e0)) (b + 4) a0) (nI b0) = true then if fX4_has ((fX4_layAfter I b (185 + 8 * e0)) (b + 1) (185 + 8 * e0 + a0)) (nI b0) = true then (nI 1, fX4_layAfter I b (185 + 8 * e0)) else (nI 2, fX4_layAfter I b (185 + 8 * e0)) else if fX4_has ((fX4_layAfter I b (185 + 8 * e0)) (b + 4) b0) (nI a0) = true then if fX4_has ((fX4_layAfter I b (185 + 8 * e0)) (b + 1) (185 + 8 * e0 + b0)) (nI a0) = true then (nI 3, fX4_layAfter I b (185 + 8 * e0)) else (nI 4, fX4_layAfter I b (185 + 8 * e0)) else (nI 0, fX4_layAfter I b (185 + 8 * e0))
set_option maxHeartbeats 4000000 in
set_option maxRecDepth 100000 in
theorem ctX4_relation_t {l : Launch} {D : va_G} {T : Nat → ClassId} {L : List Nat} {A : Nat → Prop} {Sh : hm_S} {I : hm_I} {J : hm_J} {b : Nat} (hMo : IsM L Sh b) {e0 : Nat} (he0 : e0 < 10) {a0 b0 : Nat} (ha0 : a0 < 8) (hb0 : b0 < 8) (hab : a0 ≠ b0) (ho : fX4_isOrder I b (nI e0) = true) :
    Ct l yX4_relation wsX4_relation { frames := 2, cells := 0, slots := 0, locals := 44 } 0 0 D T A [.ref b, .int (nI e0), .int (nI a0), .int (nI b0)] (hm D T L A Sh I J) (some (.int ((fX4_relation_t I b a0 b0 e0).1))) (hm D T L A Sh ((fX4_relation_t I b a0 b0 e0).2) J) := by
  refine Ct.ofW (cc := cX4_relation) (maxL := 5) (ret := (some .int)) (by decide) rfl (Nat.le_of_ble_eq_true rfl) ?_
  intro p_ e_ s_ m_ args_ below_ meth_ c_ ls R Qq hR hQ C0 hr hlk hname hM hl
  have hx := C0.1.1
  have hb := C0.1.2.1
  have hS : va_S A s_.heap s_.heap [] := va_S.rf
  have hl : lv_has ls 5 [(0, .ref b), (1, .int (nI e0)), (2, .int (nI a0)), (3, .int (nI b0))] := hl
  refine lv_aload_n hx hb dX4_relation_0 rfl (lv_at hl 0 rfl) ?_
  refine lv_iload_n hx hb dX4_relation_1 rfl (lv_at hl 1 rfl) ?_
  refine mr_callV (As := [.int (nI e0)]) C0 (ctX4_isOrder (I := I) (J := J) (b := b) (e0 := (nI e0)) hMo) (cwV 1 C0.1.2.2.2.2 gX4_relation_X4_isOrder rfl rfl rfl (by decide +kernel) (by rw [hR]; exact ⟨Nat.le_of_ble_eq_true rfl, Nat.le_of_ble_eq_true rfl⟩)) hM hMo.1.1 hMo.1.2 rfl rfl hM hS rfl rfl rfl hl.1 (Nat.le_of_ble_eq_true rfl) dX4_relation_2 (by rw [hR]; exact ⟨Nat.zero_le _, Nat.zero_le _⟩) (fun H locs hM hS => ?_)
  refine mr_eqB (tgt := 27) C0 dX4_relation_5 (by decide) (fun c1 => absurd c1 (by rw [ho]; decide)) (fun c1 => ?_)
  refine lv_iload_n hx hb dX4_relation_8 rfl (lv_at hl 2 rfl) ?_
  refine mr_callS (As := [.int (nI a0)]) C0 (isStreamM_t (I := I) (J := J) (s0 := a0) (by omega)) (va_cwS 1 C0.1.2.2.2.2 gX4_relation_X4_isStream rfl rfl rfl (by decide +kernel) (by rw [hR]; exact ⟨Nat.le_of_ble_eq_true rfl, Nat.le_of_ble_eq_true rfl⟩)) hM hS rfl rfl rfl hl.1 (Nat.le_of_ble_eq_true rfl) dX4_relation_9 (by rw [hR]; exact ⟨Nat.zero_le _, Nat.zero_le _⟩) (fun H locs hM hS => ?_)
  refine mr_eqB (tgt := 27) C0 dX4_relation_12 (by decide) (fun c2 => absurd c2 (by decide)) (fun _ => ?_)
  refine lv_iload_n hx hb dX4_relation_15 rfl (lv_at hl 3 rfl) ?_
  refine mr_callS (As := [.int (nI b0)]) C0 (isStreamM_t (I := I) (J := J) (s0 := b0) (by omega)) (va_cwS 1 C0.1.2.2.2.2 gX4_relation_X4_isStream rfl rfl rfl (by decide +kernel) (by rw [hR]; exact ⟨Nat.le_of_ble_eq_true rfl, Nat.le_of_ble_eq_true rfl⟩)) hM hS rfl rfl rfl hl.1 (Nat.le_of_ble_eq_true rfl) dX4_relation_16 (by rw [hR]; exact ⟨Nat.zero_le _, Nat.zero_le _⟩) (fun H locs hM hS => ?_)
  refine mr_eqB (tgt := 27) C0 dX4_relation_19 (by decide) (fun c3 => absurd c3 (by decide)) (fun _ => ?_)
  refine lv_iload_n hx hb dX4_relation_22 rfl (lv_at hl 2 rfl) ?_
  refine lv_iload_n hx hb dX4_relation_23 rfl (lv_at hl 3 rfl) ?_
  refine mr_neN (x := a0) (y := b0) (tgt := 29) C0 dX4_relation_24 (by decide) (by omega) (by omega) (fun c4 => ?_) (fun c4 => absurd c4 hab)
  refine lv_iload_n hx hb dX4_relation_29 rfl (lv_at hl 1 rfl) ?_
  refine mr_callS (As := [.int (nI e0)]) C0 (ctX4_orderOf_t (I := I) (J := J) (e0 := e0) (by omega)) (va_cwS 1 C0.1.2.2.2.2 gX4_relation_X4_orderOf rfl rfl rfl (by decide +kernel) (by rw [hR]; exact ⟨Nat.le_of_ble_eq_true rfl, Nat.le_of_ble_eq_true rfl⟩)) hM hS rfl rfl rfl hl.1 (Nat.le_of_ble_eq_true rfl) dX4_relation_30 (by rw [hR]; exact ⟨Nat.zero_le _, Nat.zero_le _⟩) (fun H locs hM hS => ?_)
  refine lv_istore (lv' := [(4, .int (nI (185 + 8 * e0))), (0, .ref b), (1, .int (nI e0)), (2, .int (nI a0)), (3, .int (nI b0))]) hx hb dX4_relation_33 hl (by decide) rfl (fun ls hl => ?_)
  refine lv_aload_n hx hb dX4_relation_35 rfl (lv_at hl 1 rfl) ?_
  refine lv_iload hx hb dX4_relation_36 (lv_at hl 0 rfl) ?_
  refine mr_callV (As := [.int (nI (185 + 8 * e0))]) C0 (ctX4_layAfter (I := I) (J := J) (b := b) (o := (185 + 8 * e0)) hMo (by omega)) (cwV 1 C0.1.2.2.2.2 gX4_relation_X4_layAfter rfl rfl rfl (by decide +kernel) (by rw [hR]; exact ⟨Nat.le_of_ble_eq_true rfl, Nat.le_of_ble_eq_true rfl⟩)) hM hMo.1.1 hMo.1.2 rfl rfl hM hS rfl rfl rfl hl.1 (Nat.le_of_ble_eq_true rfl) dX4_relation_38 (by rw [hR]; exact ⟨Nat.zero_le _, Nat.zero_le _⟩) (fun H locs hM hS => ?_)
  refine lv_aload_n hx hb dX4_relation_41 rfl (lv_at hl 1 rfl) ?_
  refine mr_getr (r := b + 4) (TT := TX4) (N := 10) C0 uX4_relation_X4 hM hMo.1.1 hMo.1.2 rfl 5 (by decide) rfl kX4_relation_f19 rfl dX4_relation_42 ?_
  refine lv_iload_n hx hb dX4_relation_45 rfl (lv_at hl 3 rfl) ?_
  refine mr_ialdN (v := (fX4_layAfter I b (185 + 8 * e0)) (b + 4) a0) C0 hM hMo.2.2.2.2.1.1 hMo.2.2.2.2.1.2 (by decide) (by omega) rfl dX4_relation_46 ?_
  refine lv_iload_n hx hb dX4_relation_47 rfl (lv_at hl 4 rfl) ?_
  refine mr_callS (As := [.int ((fX4_layAfter I b (185 + 8 * e0)) (b + 4) a0), .int (nI b0)]) C0 (ctX4_has (I := (fX4_layAfter I b (185 + 8 * e0))) (J := J) (u := ((fX4_layAfter I b (185 + 8 * e0)) (b + 4) a0)) (s0 := (nI b0)) ) (va_cwS 2 C0.1.2.2.2.2 gX4_relation_X4_has rfl rfl rfl (by decide +kernel) (by rw [hR]; exact ⟨Nat.le_of_ble_eq_true rfl, Nat.le_of_ble_eq_true rfl⟩)) hM hS rfl rfl rfl hl.1 (Nat.le_of_ble_eq_true rfl) dX4_relation_48 (by rw [hR]; exact ⟨Nat.zero_le _, Nat.zero_le _⟩) (fun H locs hM hS => ?_)
  refine mr_eqB (tgt := 76) C0 dX4_relation_51 (by decide) (fun c5 => ?_) (fun c5 => ?_)
  · skip
    refine lv_aload_n hx hb dX4_relation_76 rfl (lv_at hl 1 rfl) ?_
    refine mr_getr (r := b + 4) (TT := TX4) (N := 10) C0 uX4_relation_X4 hM hMo.1.1 hMo.1.2 rfl 5 (by decide) rfl kX4_relation_f19 rfl dX4_relation_77 ?_
    refine lv_iload_n hx hb dX4_relation_80 rfl (lv_at hl 4 rfl) ?_
    refine mr_ialdN (v := (fX4_layAfter I b (185 + 8 * e0)) (b + 4) b0) C0 hM hMo.2.2.2.2.1.1 hMo.2.2.2.2.1.2 (by decide) (by omega) rfl dX4_relation_81 ?_
    refine lv_iload_n hx hb dX4_relation_82 rfl (lv_at hl 3 rfl) ?_
    refine mr_callS (As := [.int ((fX4_layAfter I b (185 + 8 * e0)) (b + 4) b0), .int (nI a0)]) C0 (ctX4_has (I := (fX4_layAfter I b (185 + 8 * e0))) (J := J) (u := ((fX4_layAfter I b (185 + 8 * e0)) (b + 4) b0)) (s0 := (nI a0)) ) (va_cwS 2 C0.1.2.2.2.2 gX4_relation_X4_has rfl rfl rfl (by decide +kernel) (by rw [hR]; exact ⟨Nat.le_of_ble_eq_true rfl, Nat.le_of_ble_eq_true rfl⟩)) hM hS rfl rfl rfl hl.1 (Nat.le_of_ble_eq_true rfl) dX4_relation_83 (by rw [hR]; exact ⟨Nat.zero_le _, Nat.zero_le _⟩) (fun H locs hM hS => ?_)
    refine mr_neB (tgt := 93) C0 dX4_relation_86 (by decide) (fun c6 => ?_) (fun c6 => ?_)
    · skip
      refine lv_aload_n hx hb dX4_relation_93 rfl (lv_at hl 1 rfl) ?_
      refine mr_getr (r := b + 1) (TT := TX4) (N := 10) C0 uX4_relation_X4 hM hMo.1.1 hMo.1.2 rfl 0 (by decide) rfl kX4_relation_f7 rfl dX4_relation_94 ?_
      refine lv_iload hx hb dX4_relation_97 (lv_at hl 0 rfl) ?_
      refine lv_iload_n hx hb dX4_relation_99 rfl (lv_at hl 4 rfl) ?_
      refine mr_iaddN (z := 185 + 8 * e0 + b0) C0 rfl dX4_relation_100 ?_
      refine mr_ialdN (v := (fX4_layAfter I b (185 + 8 * e0)) (b + 1) (185 + 8 * e0 + b0)) C0 hM hMo.2.1.1 hMo.2.1.2 (by decide) (by omega) rfl dX4_relation_101 ?_
      refine lv_iload_n hx hb dX4_relation_102 rfl (lv_at hl 3 rfl) ?_
      refine mr_callS (As := [.int ((fX4_layAfter I b (185 + 8 * e0)) (b + 1) (185 + 8 * e0 + b0)), .int (nI a0)]) C0 (ctX4_has (I := (fX4_layAfter I b (185 + 8 * e0))) (J := J) (u := ((fX4_layAfter I b (185 + 8 * e0)) (b + 1) (185 + 8 * e0 + b0))) (s0 := (nI a0)) ) (va_cwS 2 C0.1.2.2.2.2 gX4_relation_X4_has rfl rfl rfl (by decide +kernel) (by rw [hR]; exact ⟨Nat.le_of_ble_eq_true rfl, Nat.le_of_ble_eq_true rfl⟩)) hM hS rfl rfl rfl hl.1 (Nat.le_of_ble_eq_true rfl) dX4_relation_103 (by rw [hR]; exact ⟨Nat.zero_le _, Nat.zero_le _⟩) (fun H locs hM hS => ?_)
      refine mr_eqB (tgt := 113) C0 dX4_relation_106 (by decide) (fun c7 => ?_) (fun c7 => ?_)
      · skip
        refine lv_iconst (v := nI 4) hx hb dX4_relation_113 (by decide) ?_
        have eF : (nI 4, fX4_layAfter I b (185 + 8 * e0)) = fX4_relation_t I b a0 b0 e0 := by unfold fX4_relation_t; rw [if_neg (Bool.eq_false_iff.mp c5), if_pos c6, if_neg (Bool.eq_false_iff.mp c7)]
        exact mr_iret (v := nI 4) C0 hr hlk hQ hS (by rw [← eF]) (by rw [← eF]; exact hM) (Nat.le_refl _) (Nat.le_refl _) dX4_relation_114
      · skip
        refine lv_iconst (v := nI 3) hx hb dX4_relation_109 (by decide) ?_
        refine lv_goto (tgt := 114) hx hb dX4_relation_110 (by decide) ?_
        have eF : (nI 3, fX4_layAfter I b (185 + 8 * e0)) = fX4_relation_t I b a0 b0 e0 := by unfold fX4_relation_t; rw [if_neg (Bool.eq_false_iff.mp c5), if_pos c6, if_pos c7]
        exact mr_iret (v := nI 3) C0 hr hlk hQ hS (by rw [← eF]) (by rw [← eF]; exact hM) (Nat.le_refl _) (Nat.le_refl _) dX4_relation_114
    · skip
      refine lv_iconst (v := nI 0) hx hb dX4_relation_89 (by decide) ?_
      refine lv_goto (tgt := 114) hx hb dX4_relation_90 (by decide) ?_
      have eF : (nI 0, fX4_layAfter I b (185 + 8 * e0)) = fX4_relation_t I b a0 b0 e0 := by unfold fX4_relation_t; rw [if_neg (Bool.eq_false_iff.mp c5), if_neg (Bool.eq_false_iff.mp c6)]
      exact mr_iret (v := nI 0) C0 hr hlk hQ hS (by rw [← eF]) (by rw [← eF]; exact hM) (Nat.le_refl _) (Nat.le_refl _) dX4_relation_114
  · skip
    refine lv_aload_n hx hb dX4_relation_54 rfl (lv_at hl 1 rfl) ?_
    refine mr_getr (r := b + 1) (TT := TX4) (N := 10) C0 uX4_relation_X4 hM hMo.1.1 hMo.1.2 rfl 0 (by decide) rfl kX4_relation_f7 rfl dX4_relation_55 ?_
    refine lv_iload hx hb dX4_relation_58 (lv_at hl 0 rfl) ?_
    refine lv_iload_n hx hb dX4_relation_60 rfl (lv_at hl 3 rfl) ?_
    refine mr_iaddN (z := 185 + 8 * e0 + a0) C0 rfl dX4_relation_61 ?_
    refine mr_ialdN (v := (fX4_layAfter I b (185 + 8 * e0)) (b + 1) (185 + 8 * e0 + a0)) C0 hM hMo.2.1.1 hMo.2.1.2 (by decide) (by omega) rfl dX4_relation_62 ?_
    refine lv_iload_n hx hb dX4_relation_63 rfl (lv_at hl 4 rfl) ?_
    refine mr_callS (As := [.int ((fX4_layAfter I b (185 + 8 * e0)) (b + 1) (185 + 8 * e0 + a0)), .int (nI b0)]) C0 (ctX4_has (I := (fX4_layAfter I b (185 + 8 * e0))) (J := J) (u := ((fX4_layAfter I b (185 + 8 * e0)) (b + 1) (185 + 8 * e0 + a0))) (s0 := (nI b0)) ) (va_cwS 2 C0.1.2.2.2.2 gX4_relation_X4_has rfl rfl rfl (by decide +kernel) (by rw [hR]; exact ⟨Nat.le_of_ble_eq_true rfl, Nat.le_of_ble_eq_true rfl⟩)) hM hS rfl rfl rfl hl.1 (Nat.le_of_ble_eq_true rfl) dX4_relation_64 (by rw [hR]; exact ⟨Nat.zero_le _, Nat.zero_le _⟩) (fun H locs hM hS => ?_)
    refine mr_eqB (tgt := 74) C0 dX4_relation_67 (by decide) (fun c8 => ?_) (fun c8 => ?_)
    · skip
      refine lv_iconst (v := nI 2) hx hb dX4_relation_74 (by decide) ?_
      have eF : (nI 2, fX4_layAfter I b (185 + 8 * e0)) = fX4_relation_t I b a0 b0 e0 := by unfold fX4_relation_t; rw [if_pos c5, if_neg (Bool.eq_false_iff.mp c8)]
      exact mr_iret (v := nI 2) C0 hr hlk hQ hS (by rw [← eF]) (by rw [← eF]; exact hM) (Nat.le_refl _) (Nat.le_refl _) dX4_relation_75
    · skip
      refine lv_iconst (v := nI 1) hx hb dX4_relation_70 (by decide) ?_
      refine lv_goto (tgt := 75) hx hb dX4_relation_71 (by decide) ?_
      have eF : (nI 1, fX4_layAfter I b (185 + 8 * e0)) = fX4_relation_t I b a0 b0 e0 := by unfold fX4_relation_t; rw [if_pos c5, if_pos c8]
      exact mr_iret (v := nI 1) C0 hr hlk hQ hS (by rw [← eF]) (by rw [← eF]; exact hM) (Nat.le_refl _) (Nat.le_refl _) dX4_relation_75
set_option maxHeartbeats 4000000 in
set_option maxRecDepth 100000 in
theorem ctX4_order_t0 {l : Launch} {D : va_G} {T : Nat → ClassId} {L : List Nat} {A : Nat → Prop} {Sh : hm_S} {I : hm_I} {J : hm_J} {b : Nat} (hMo : IsM L Sh b) {e0 : Nat} (he0 : e0 < 10) (ho : fX4_isOrder I b (nI e0) = true) :
    Ct l yX4_order wsX4_order { frames := 2, cells := 0, slots := 0, locals := 45 } 0 0 D T A [.ref b, .int (nI e0), .int (nI 0)] (hm D T L A Sh I J) (some (.int (fX4_pairs (fX4_layAfter I b (185 + 8 * e0)) b (fX4_openSet (fX4_layAfter I b (185 + 8 * e0)) b)))) (hm D T L A Sh (fX4_layAfter I b (185 + 8 * e0)) J) := by
  refine Ct.ofW (cc := cX4_order) (maxL := 4) (ret := (some .int)) (by decide) rfl (Nat.le_of_ble_eq_true rfl) ?_
  intro p_ e_ s_ m_ args_ below_ meth_ c_ ls R Qq hR hQ C0 hr hlk hname hM hl
  have hx := C0.1.1
  have hb := C0.1.2.1
  have hS : va_S A s_.heap s_.heap [] := va_S.rf
  have hl : lv_has ls 4 [(0, .ref b), (1, .int (nI e0)), (2, .int (nI 0))] := hl
  refine lv_aload_n hx hb dX4_order_0 rfl (lv_at hl 0 rfl) ?_
  refine lv_iload_n hx hb dX4_order_1 rfl (lv_at hl 1 rfl) ?_
  refine mr_callV (As := [.int (nI e0)]) C0 (ctX4_isOrder (I := I) (J := J) (b := b) (e0 := (nI e0)) hMo) (cwV 1 C0.1.2.2.2.2 gX4_order_X4_isOrder rfl rfl rfl (by decide +kernel) (by rw [hR]; exact ⟨Nat.le_of_ble_eq_true rfl, Nat.le_of_ble_eq_true rfl⟩)) hM hMo.1.1 hMo.1.2 rfl rfl hM hS rfl rfl rfl hl.1 (Nat.le_of_ble_eq_true rfl) dX4_order_2 (by rw [hR]; exact ⟨Nat.zero_le _, Nat.zero_le _⟩) (fun H locs hM hS => ?_)
  refine mr_eqB (tgt := 17) C0 dX4_order_5 (by decide) (fun c1 => absurd c1 (by rw [ho]; decide)) (fun c1 => ?_)
  refine lv_iload_n hx hb dX4_order_8 rfl (lv_at hl 2 rfl) ?_
  refine lv_iconst (v := nI 0) hx hb dX4_order_9 (by decide) ?_
  refine lv_iconst (v := nI 4) hx hb dX4_order_10 (by decide) ?_
  refine mr_callS (As := [.int (nI 0), .int (nI 0), .int (nI 4)]) C0 (ctX4_isIn (I := I) (J := J) (v := (nI 0)) (lo := (nI 0)) (up := (nI 4)) ) (va_cwS 3 C0.1.2.2.2.2 gX4_order_X4_isIn rfl rfl rfl (by decide +kernel) (by rw [hR]; exact ⟨Nat.le_of_ble_eq_true rfl, Nat.le_of_ble_eq_true rfl⟩)) hM hS rfl rfl rfl hl.1 (Nat.le_of_ble_eq_true rfl) dX4_order_11 (by rw [hR]; exact ⟨Nat.zero_le _, Nat.zero_le _⟩) (fun H locs hM hS => ?_)
  refine mr_neB (tgt := 19) C0 dX4_order_14 (by decide) (fun c2 => ?_) (fun c2 => absurd c2 (by decide))
  refine lv_aload_n hx hb dX4_order_19 rfl (lv_at hl 0 rfl) ?_
  refine lv_iload_n hx hb dX4_order_20 rfl (lv_at hl 1 rfl) ?_
  refine mr_callS (As := [.int (nI e0)]) C0 (ctX4_orderOf_t (I := I) (J := J) (e0 := e0) (by omega)) (va_cwS 1 C0.1.2.2.2.2 gX4_order_X4_orderOf rfl rfl rfl (by decide +kernel) (by rw [hR]; exact ⟨Nat.le_of_ble_eq_true rfl, Nat.le_of_ble_eq_true rfl⟩)) hM hS rfl rfl rfl hl.1 (Nat.le_of_ble_eq_true rfl) dX4_order_21 (by rw [hR]; exact ⟨Nat.zero_le _, Nat.zero_le _⟩) (fun H locs hM hS => ?_)
  refine mr_callV (As := [.int (nI (185 + 8 * e0))]) C0 (ctX4_layAfter (I := I) (J := J) (b := b) (o := (185 + 8 * e0)) hMo (by omega)) (cwV 1 C0.1.2.2.2.2 gX4_order_X4_layAfter rfl rfl rfl (by decide +kernel) (by rw [hR]; exact ⟨Nat.le_of_ble_eq_true rfl, Nat.le_of_ble_eq_true rfl⟩)) hM hMo.1.1 hMo.1.2 rfl rfl hM hS rfl rfl rfl hl.1 (Nat.le_of_ble_eq_true rfl) dX4_order_24 (by rw [hR]; exact ⟨Nat.zero_le _, Nat.zero_le _⟩) (fun H locs hM hS => ?_)
  refine lv_aload_n hx hb dX4_order_27 rfl (lv_at hl 0 rfl) ?_
  refine mr_callV (As := []) C0 (ctX4_openSet (I := (fX4_layAfter I b (185 + 8 * e0))) (J := J) (b := b) hMo) (cwV 0 C0.1.2.2.2.2 gX4_order_X4_openSet rfl rfl rfl (by decide +kernel) (by rw [hR]; exact ⟨Nat.le_of_ble_eq_true rfl, Nat.le_of_ble_eq_true rfl⟩)) hM hMo.1.1 hMo.1.2 rfl rfl hM hS rfl rfl rfl hl.1 (Nat.le_of_ble_eq_true rfl) dX4_order_28 (by rw [hR]; exact ⟨Nat.zero_le _, Nat.zero_le _⟩) (fun H locs hM hS => ?_)
  refine lv_istore_n (lv' := [(3, .int (fX4_openSet (fX4_layAfter I b (185 + 8 * e0)) b)), (0, .ref b), (1, .int (nI e0)), (2, .int (nI 0))]) hx hb dX4_order_31 rfl hl (by decide) rfl (fun ls hl => ?_)
  refine lv_iload_n hx hb dX4_order_32 rfl (lv_at hl 3 rfl) ?_
  refine lv_tableIn (off := 31) (tgt := 64) hx hb dX4_order_33 (by decide) (by decide) (by decide) (by decide) ?_
  refine lv_aload_n hx hb dX4_order_64 rfl (lv_at hl 1 rfl) ?_
  refine lv_iload_n hx hb dX4_order_65 rfl (lv_at hl 0 rfl) ?_
  refine mr_callV (As := [.int (fX4_openSet (fX4_layAfter I b (185 + 8 * e0)) b)]) C0 (ctX4_pairs (I := (fX4_layAfter I b (185 + 8 * e0))) (J := J) (b := b) (u := (fX4_openSet (fX4_layAfter I b (185 + 8 * e0)) b)) hMo) (cwV 1 C0.1.2.2.2.2 gX4_order_X4_pairs rfl rfl rfl (by decide +kernel) (by rw [hR]; exact ⟨Nat.le_of_ble_eq_true rfl, Nat.le_of_ble_eq_true rfl⟩)) hM hMo.1.1 hMo.1.2 rfl rfl hM hS rfl rfl rfl hl.1 (Nat.le_of_ble_eq_true rfl) dX4_order_66 (by rw [hR]; exact ⟨Nat.zero_le _, Nat.zero_le _⟩) (fun H locs hM hS => ?_)
  skip
  exact mr_iret (v := fX4_pairs (fX4_layAfter I b (185 + 8 * e0)) b (fX4_openSet (fX4_layAfter I b (185 + 8 * e0)) b)) C0 hr hlk hQ hS rfl hM (Nat.le_refl _) (Nat.le_refl _) dX4_order_69
set_option maxHeartbeats 4000000 in
set_option maxRecDepth 100000 in
theorem ctX4_order_t1 {l : Launch} {D : va_G} {T : Nat → ClassId} {L : List Nat} {A : Nat → Prop} {Sh : hm_S} {I : hm_I} {J : hm_J} {b : Nat} (hMo : IsM L Sh b) {e0 : Nat} (he0 : e0 < 10) (ho : fX4_isOrder I b (nI e0) = true) :
    Ct l yX4_order wsX4_order { frames := 2, cells := 0, slots := 0, locals := 47 } 0 0 D T A [.ref b, .int (nI e0), .int (nI 1)] (hm D T L A Sh I J) (some (.int ((fX4_longest (fX4_layAfter I b (185 + 8 * e0)) b (fX4_openSet (fX4_layAfter I b (185 + 8 * e0)) b)).1))) (hm D T L A Sh ((fX4_longest (fX4_layAfter I b (185 + 8 * e0)) b (fX4_openSet (fX4_layAfter I b (185 + 8 * e0)) b)).2) J) := by
  refine Ct.ofW (cc := cX4_order) (maxL := 4) (ret := (some .int)) (by decide) rfl (Nat.le_of_ble_eq_true rfl) ?_
  intro p_ e_ s_ m_ args_ below_ meth_ c_ ls R Qq hR hQ C0 hr hlk hname hM hl
  have hx := C0.1.1
  have hb := C0.1.2.1
  have hS : va_S A s_.heap s_.heap [] := va_S.rf
  have hl : lv_has ls 4 [(0, .ref b), (1, .int (nI e0)), (2, .int (nI 1))] := hl
  refine lv_aload_n hx hb dX4_order_0 rfl (lv_at hl 0 rfl) ?_
  refine lv_iload_n hx hb dX4_order_1 rfl (lv_at hl 1 rfl) ?_
  refine mr_callV (As := [.int (nI e0)]) C0 (ctX4_isOrder (I := I) (J := J) (b := b) (e0 := (nI e0)) hMo) (cwV 1 C0.1.2.2.2.2 gX4_order_X4_isOrder rfl rfl rfl (by decide +kernel) (by rw [hR]; exact ⟨Nat.le_of_ble_eq_true rfl, Nat.le_of_ble_eq_true rfl⟩)) hM hMo.1.1 hMo.1.2 rfl rfl hM hS rfl rfl rfl hl.1 (Nat.le_of_ble_eq_true rfl) dX4_order_2 (by rw [hR]; exact ⟨Nat.zero_le _, Nat.zero_le _⟩) (fun H locs hM hS => ?_)
  refine mr_eqB (tgt := 17) C0 dX4_order_5 (by decide) (fun c1 => absurd c1 (by rw [ho]; decide)) (fun c1 => ?_)
  refine lv_iload_n hx hb dX4_order_8 rfl (lv_at hl 2 rfl) ?_
  refine lv_iconst (v := nI 0) hx hb dX4_order_9 (by decide) ?_
  refine lv_iconst (v := nI 4) hx hb dX4_order_10 (by decide) ?_
  refine mr_callS (As := [.int (nI 1), .int (nI 0), .int (nI 4)]) C0 (ctX4_isIn (I := I) (J := J) (v := (nI 1)) (lo := (nI 0)) (up := (nI 4)) ) (va_cwS 3 C0.1.2.2.2.2 gX4_order_X4_isIn rfl rfl rfl (by decide +kernel) (by rw [hR]; exact ⟨Nat.le_of_ble_eq_true rfl, Nat.le_of_ble_eq_true rfl⟩)) hM hS rfl rfl rfl hl.1 (Nat.le_of_ble_eq_true rfl) dX4_order_11 (by rw [hR]; exact ⟨Nat.zero_le _, Nat.zero_le _⟩) (fun H locs hM hS => ?_)
  refine mr_neB (tgt := 19) C0 dX4_order_14 (by decide) (fun c2 => ?_) (fun c2 => absurd c2 (by decide))
  refine lv_aload_n hx hb dX4_order_19 rfl (lv_at hl 0 rfl) ?_
  refine lv_iload_n hx hb dX4_order_20 rfl (lv_at hl 1 rfl) ?_
  refine mr_callS (As := [.int (nI e0)]) C0 (ctX4_orderOf_t (I := I) (J := J) (e0 := e0) (by omega)) (va_cwS 1 C0.1.2.2.2.2 gX4_order_X4_orderOf rfl rfl rfl (by decide +kernel) (by rw [hR]; exact ⟨Nat.le_of_ble_eq_true rfl, Nat.le_of_ble_eq_true rfl⟩)) hM hS rfl rfl rfl hl.1 (Nat.le_of_ble_eq_true rfl) dX4_order_21 (by rw [hR]; exact ⟨Nat.zero_le _, Nat.zero_le _⟩) (fun H locs hM hS => ?_)
  refine mr_callV (As := [.int (nI (185 + 8 * e0))]) C0 (ctX4_layAfter (I := I) (J := J) (b := b) (o := (185 + 8 * e0)) hMo (by omega)) (cwV 1 C0.1.2.2.2.2 gX4_order_X4_layAfter rfl rfl rfl (by decide +kernel) (by rw [hR]; exact ⟨Nat.le_of_ble_eq_true rfl, Nat.le_of_ble_eq_true rfl⟩)) hM hMo.1.1 hMo.1.2 rfl rfl hM hS rfl rfl rfl hl.1 (Nat.le_of_ble_eq_true rfl) dX4_order_24 (by rw [hR]; exact ⟨Nat.zero_le _, Nat.zero_le _⟩) (fun H locs hM hS => ?_)
  refine lv_aload_n hx hb dX4_order_27 rfl (lv_at hl 0 rfl) ?_
  refine mr_callV (As := []) C0 (ctX4_openSet (I := (fX4_layAfter I b (185 + 8 * e0))) (J := J) (b := b) hMo) (cwV 0 C0.1.2.2.2.2 gX4_order_X4_openSet rfl rfl rfl (by decide +kernel) (by rw [hR]; exact ⟨Nat.le_of_ble_eq_true rfl, Nat.le_of_ble_eq_true rfl⟩)) hM hMo.1.1 hMo.1.2 rfl rfl hM hS rfl rfl rfl hl.1 (Nat.le_of_ble_eq_true rfl) dX4_order_28 (by rw [hR]; exact ⟨Nat.zero_le _, Nat.zero_le _⟩) (fun H locs hM hS => ?_)
  refine lv_istore_n (lv' := [(3, .int (fX4_openSet (fX4_layAfter I b (185 + 8 * e0)) b)), (0, .ref b), (1, .int (nI e0)), (2, .int (nI 1))]) hx hb dX4_order_31 rfl hl (by decide) rfl (fun ls hl => ?_)
  refine lv_iload_n hx hb dX4_order_32 rfl (lv_at hl 3 rfl) ?_
  refine lv_tableIn (off := 37) (tgt := 70) hx hb dX4_order_33 (by decide) (by decide) (by decide) (by decide) ?_
  refine lv_aload_n hx hb dX4_order_70 rfl (lv_at hl 1 rfl) ?_
  refine lv_iload_n hx hb dX4_order_71 rfl (lv_at hl 0 rfl) ?_
  refine mr_callV (As := [.int (fX4_openSet (fX4_layAfter I b (185 + 8 * e0)) b)]) C0 (ctX4_longest (I := (fX4_layAfter I b (185 + 8 * e0))) (J := J) (b := b) (u := (fX4_openSet (fX4_layAfter I b (185 + 8 * e0)) b)) hMo) (cwV 1 C0.1.2.2.2.2 gX4_order_X4_longest rfl rfl rfl (by decide +kernel) (by rw [hR]; exact ⟨Nat.le_of_ble_eq_true rfl, Nat.le_of_ble_eq_true rfl⟩)) hM hMo.1.1 hMo.1.2 rfl rfl hM hS rfl rfl rfl hl.1 (Nat.le_of_ble_eq_true rfl) dX4_order_72 (by rw [hR]; exact ⟨Nat.zero_le _, Nat.zero_le _⟩) (fun H locs hM hS => ?_)
  skip
  exact mr_iret (v := (fX4_longest (fX4_layAfter I b (185 + 8 * e0)) b (fX4_openSet (fX4_layAfter I b (185 + 8 * e0)) b)).1) C0 hr hlk hQ hS rfl hM (Nat.le_refl _) (Nat.le_refl _) dX4_order_75
set_option maxHeartbeats 4000000 in
set_option maxRecDepth 100000 in
theorem ctX4_order_t2 {l : Launch} {D : va_G} {T : Nat → ClassId} {L : List Nat} {A : Nat → Prop} {Sh : hm_S} {I : hm_I} {J : hm_J} {b : Nat} (hMo : IsM L Sh b) {e0 : Nat} (he0 : e0 < 10) (ho : fX4_isOrder I b (nI e0) = true) :
    Ct l yX4_order wsX4_order { frames := 3, cells := 0, slots := 0, locals := 68 } 0 0 D T A [.ref b, .int (nI e0), .int (nI 2)] (hm D T L A Sh I J) (some (.int (fX4_widest (fX4_layAfter I b (185 + 8 * e0)) b (fX4_openSet (fX4_layAfter I b (185 + 8 * e0)) b)))) (hm D T L A Sh (fX4_layAfter I b (185 + 8 * e0)) J) := by
  refine Ct.ofW (cc := cX4_order) (maxL := 4) (ret := (some .int)) (by decide) rfl (Nat.le_of_ble_eq_true rfl) ?_
  intro p_ e_ s_ m_ args_ below_ meth_ c_ ls R Qq hR hQ C0 hr hlk hname hM hl
  have hx := C0.1.1
  have hb := C0.1.2.1
  have hS : va_S A s_.heap s_.heap [] := va_S.rf
  have hl : lv_has ls 4 [(0, .ref b), (1, .int (nI e0)), (2, .int (nI 2))] := hl
  refine lv_aload_n hx hb dX4_order_0 rfl (lv_at hl 0 rfl) ?_
  refine lv_iload_n hx hb dX4_order_1 rfl (lv_at hl 1 rfl) ?_
  refine mr_callV (As := [.int (nI e0)]) C0 (ctX4_isOrder (I := I) (J := J) (b := b) (e0 := (nI e0)) hMo) (cwV 1 C0.1.2.2.2.2 gX4_order_X4_isOrder rfl rfl rfl (by decide +kernel) (by rw [hR]; exact ⟨Nat.le_of_ble_eq_true rfl, Nat.le_of_ble_eq_true rfl⟩)) hM hMo.1.1 hMo.1.2 rfl rfl hM hS rfl rfl rfl hl.1 (Nat.le_of_ble_eq_true rfl) dX4_order_2 (by rw [hR]; exact ⟨Nat.zero_le _, Nat.zero_le _⟩) (fun H locs hM hS => ?_)
  refine mr_eqB (tgt := 17) C0 dX4_order_5 (by decide) (fun c1 => absurd c1 (by rw [ho]; decide)) (fun c1 => ?_)
  refine lv_iload_n hx hb dX4_order_8 rfl (lv_at hl 2 rfl) ?_
  refine lv_iconst (v := nI 0) hx hb dX4_order_9 (by decide) ?_
  refine lv_iconst (v := nI 4) hx hb dX4_order_10 (by decide) ?_
  refine mr_callS (As := [.int (nI 2), .int (nI 0), .int (nI 4)]) C0 (ctX4_isIn (I := I) (J := J) (v := (nI 2)) (lo := (nI 0)) (up := (nI 4)) ) (va_cwS 3 C0.1.2.2.2.2 gX4_order_X4_isIn rfl rfl rfl (by decide +kernel) (by rw [hR]; exact ⟨Nat.le_of_ble_eq_true rfl, Nat.le_of_ble_eq_true rfl⟩)) hM hS rfl rfl rfl hl.1 (Nat.le_of_ble_eq_true rfl) dX4_order_11 (by rw [hR]; exact ⟨Nat.zero_le _, Nat.zero_le _⟩) (fun H locs hM hS => ?_)
  refine mr_neB (tgt := 19) C0 dX4_order_14 (by decide) (fun c2 => ?_) (fun c2 => absurd c2 (by decide))
  refine lv_aload_n hx hb dX4_order_19 rfl (lv_at hl 0 rfl) ?_
  refine lv_iload_n hx hb dX4_order_20 rfl (lv_at hl 1 rfl) ?_
  refine mr_callS (As := [.int (nI e0)]) C0 (ctX4_orderOf_t (I := I) (J := J) (e0 := e0) (by omega)) (va_cwS 1 C0.1.2.2.2.2 gX4_order_X4_orderOf rfl rfl rfl (by decide +kernel) (by rw [hR]; exact ⟨Nat.le_of_ble_eq_true rfl, Nat.le_of_ble_eq_true rfl⟩)) hM hS rfl rfl rfl hl.1 (Nat.le_of_ble_eq_true rfl) dX4_order_21 (by rw [hR]; exact ⟨Nat.zero_le _, Nat.zero_le _⟩) (fun H locs hM hS => ?_)
  refine mr_callV (As := [.int (nI (185 + 8 * e0))]) C0 (ctX4_layAfter (I := I) (J := J) (b := b) (o := (185 + 8 * e0)) hMo (by omega)) (cwV 1 C0.1.2.2.2.2 gX4_order_X4_layAfter rfl rfl rfl (by decide +kernel) (by rw [hR]; exact ⟨Nat.le_of_ble_eq_true rfl, Nat.le_of_ble_eq_true rfl⟩)) hM hMo.1.1 hMo.1.2 rfl rfl hM hS rfl rfl rfl hl.1 (Nat.le_of_ble_eq_true rfl) dX4_order_24 (by rw [hR]; exact ⟨Nat.zero_le _, Nat.zero_le _⟩) (fun H locs hM hS => ?_)
  refine lv_aload_n hx hb dX4_order_27 rfl (lv_at hl 0 rfl) ?_
  refine mr_callV (As := []) C0 (ctX4_openSet (I := (fX4_layAfter I b (185 + 8 * e0))) (J := J) (b := b) hMo) (cwV 0 C0.1.2.2.2.2 gX4_order_X4_openSet rfl rfl rfl (by decide +kernel) (by rw [hR]; exact ⟨Nat.le_of_ble_eq_true rfl, Nat.le_of_ble_eq_true rfl⟩)) hM hMo.1.1 hMo.1.2 rfl rfl hM hS rfl rfl rfl hl.1 (Nat.le_of_ble_eq_true rfl) dX4_order_28 (by rw [hR]; exact ⟨Nat.zero_le _, Nat.zero_le _⟩) (fun H locs hM hS => ?_)
  refine lv_istore_n (lv' := [(3, .int (fX4_openSet (fX4_layAfter I b (185 + 8 * e0)) b)), (0, .ref b), (1, .int (nI e0)), (2, .int (nI 2))]) hx hb dX4_order_31 rfl hl (by decide) rfl (fun ls hl => ?_)
  refine lv_iload_n hx hb dX4_order_32 rfl (lv_at hl 3 rfl) ?_
  refine lv_tableIn (off := 43) (tgt := 76) hx hb dX4_order_33 (by decide) (by decide) (by decide) (by decide) ?_
  refine lv_aload_n hx hb dX4_order_76 rfl (lv_at hl 1 rfl) ?_
  refine lv_iload_n hx hb dX4_order_77 rfl (lv_at hl 0 rfl) ?_
  refine mr_callV (As := [.int (fX4_openSet (fX4_layAfter I b (185 + 8 * e0)) b)]) C0 (ctX4_widest (I := (fX4_layAfter I b (185 + 8 * e0))) (J := J) (b := b) (u := (fX4_openSet (fX4_layAfter I b (185 + 8 * e0)) b)) hMo) (cwV 1 C0.1.2.2.2.2 gX4_order_X4_widest rfl rfl rfl (by decide +kernel) (by rw [hR]; exact ⟨Nat.le_of_ble_eq_true rfl, Nat.le_of_ble_eq_true rfl⟩)) hM hMo.1.1 hMo.1.2 rfl rfl hM hS rfl rfl rfl hl.1 (Nat.le_of_ble_eq_true rfl) dX4_order_78 (by rw [hR]; exact ⟨Nat.zero_le _, Nat.zero_le _⟩) (fun H locs hM hS => ?_)
  skip
  exact mr_iret (v := fX4_widest (fX4_layAfter I b (185 + 8 * e0)) b (fX4_openSet (fX4_layAfter I b (185 + 8 * e0)) b)) C0 hr hlk hQ hS rfl hM (Nat.le_refl _) (Nat.le_refl _) dX4_order_81
set_option maxHeartbeats 4000000 in
set_option maxRecDepth 100000 in
theorem ctX4_order_t3 {l : Launch} {D : va_G} {T : Nat → ClassId} {L : List Nat} {A : Nat → Prop} {Sh : hm_S} {I : hm_I} {J : hm_J} {b : Nat} (hMo : IsM L Sh b) {e0 : Nat} (he0 : e0 < 10) (ho : fX4_isOrder I b (nI e0) = true) :
    Ct l yX4_order wsX4_order { frames := 2, cells := 0, slots := 0, locals := 45 } 0 0 D T A [.ref b, .int (nI e0), .int (nI 3)] (hm D T L A Sh I J) (some (.int (fX4_first (fX4_layAfter I b (185 + 8 * e0)) b (fX4_openSet (fX4_layAfter I b (185 + 8 * e0)) b)))) (hm D T L A Sh (fX4_layAfter I b (185 + 8 * e0)) J) := by
  refine Ct.ofW (cc := cX4_order) (maxL := 4) (ret := (some .int)) (by decide) rfl (Nat.le_of_ble_eq_true rfl) ?_
  intro p_ e_ s_ m_ args_ below_ meth_ c_ ls R Qq hR hQ C0 hr hlk hname hM hl
  have hx := C0.1.1
  have hb := C0.1.2.1
  have hS : va_S A s_.heap s_.heap [] := va_S.rf
  have hl : lv_has ls 4 [(0, .ref b), (1, .int (nI e0)), (2, .int (nI 3))] := hl
  refine lv_aload_n hx hb dX4_order_0 rfl (lv_at hl 0 rfl) ?_
  refine lv_iload_n hx hb dX4_order_1 rfl (lv_at hl 1 rfl) ?_
  refine mr_callV (As := [.int (nI e0)]) C0 (ctX4_isOrder (I := I) (J := J) (b := b) (e0 := (nI e0)) hMo) (cwV 1 C0.1.2.2.2.2 gX4_order_X4_isOrder rfl rfl rfl (by decide +kernel) (by rw [hR]; exact ⟨Nat.le_of_ble_eq_true rfl, Nat.le_of_ble_eq_true rfl⟩)) hM hMo.1.1 hMo.1.2 rfl rfl hM hS rfl rfl rfl hl.1 (Nat.le_of_ble_eq_true rfl) dX4_order_2 (by rw [hR]; exact ⟨Nat.zero_le _, Nat.zero_le _⟩) (fun H locs hM hS => ?_)
  refine mr_eqB (tgt := 17) C0 dX4_order_5 (by decide) (fun c1 => absurd c1 (by rw [ho]; decide)) (fun c1 => ?_)
  refine lv_iload_n hx hb dX4_order_8 rfl (lv_at hl 2 rfl) ?_
  refine lv_iconst (v := nI 0) hx hb dX4_order_9 (by decide) ?_
  refine lv_iconst (v := nI 4) hx hb dX4_order_10 (by decide) ?_
  refine mr_callS (As := [.int (nI 3), .int (nI 0), .int (nI 4)]) C0 (ctX4_isIn (I := I) (J := J) (v := (nI 3)) (lo := (nI 0)) (up := (nI 4)) ) (va_cwS 3 C0.1.2.2.2.2 gX4_order_X4_isIn rfl rfl rfl (by decide +kernel) (by rw [hR]; exact ⟨Nat.le_of_ble_eq_true rfl, Nat.le_of_ble_eq_true rfl⟩)) hM hS rfl rfl rfl hl.1 (Nat.le_of_ble_eq_true rfl) dX4_order_11 (by rw [hR]; exact ⟨Nat.zero_le _, Nat.zero_le _⟩) (fun H locs hM hS => ?_)
  refine mr_neB (tgt := 19) C0 dX4_order_14 (by decide) (fun c2 => ?_) (fun c2 => absurd c2 (by decide))
  refine lv_aload_n hx hb dX4_order_19 rfl (lv_at hl 0 rfl) ?_
  refine lv_iload_n hx hb dX4_order_20 rfl (lv_at hl 1 rfl) ?_
  refine mr_callS (As := [.int (nI e0)]) C0 (ctX4_orderOf_t (I := I) (J := J) (e0 := e0) (by omega)) (va_cwS 1 C0.1.2.2.2.2 gX4_order_X4_orderOf rfl rfl rfl (by decide +kernel) (by rw [hR]; exact ⟨Nat.le_of_ble_eq_true rfl, Nat.le_of_ble_eq_true rfl⟩)) hM hS rfl rfl rfl hl.1 (Nat.le_of_ble_eq_true rfl) dX4_order_21 (by rw [hR]; exact ⟨Nat.zero_le _, Nat.zero_le _⟩) (fun H locs hM hS => ?_)
  refine mr_callV (As := [.int (nI (185 + 8 * e0))]) C0 (ctX4_layAfter (I := I) (J := J) (b := b) (o := (185 + 8 * e0)) hMo (by omega)) (cwV 1 C0.1.2.2.2.2 gX4_order_X4_layAfter rfl rfl rfl (by decide +kernel) (by rw [hR]; exact ⟨Nat.le_of_ble_eq_true rfl, Nat.le_of_ble_eq_true rfl⟩)) hM hMo.1.1 hMo.1.2 rfl rfl hM hS rfl rfl rfl hl.1 (Nat.le_of_ble_eq_true rfl) dX4_order_24 (by rw [hR]; exact ⟨Nat.zero_le _, Nat.zero_le _⟩) (fun H locs hM hS => ?_)
  refine lv_aload_n hx hb dX4_order_27 rfl (lv_at hl 0 rfl) ?_
  refine mr_callV (As := []) C0 (ctX4_openSet (I := (fX4_layAfter I b (185 + 8 * e0))) (J := J) (b := b) hMo) (cwV 0 C0.1.2.2.2.2 gX4_order_X4_openSet rfl rfl rfl (by decide +kernel) (by rw [hR]; exact ⟨Nat.le_of_ble_eq_true rfl, Nat.le_of_ble_eq_true rfl⟩)) hM hMo.1.1 hMo.1.2 rfl rfl hM hS rfl rfl rfl hl.1 (Nat.le_of_ble_eq_true rfl) dX4_order_28 (by rw [hR]; exact ⟨Nat.zero_le _, Nat.zero_le _⟩) (fun H locs hM hS => ?_)
  refine lv_istore_n (lv' := [(3, .int (fX4_openSet (fX4_layAfter I b (185 + 8 * e0)) b)), (0, .ref b), (1, .int (nI e0)), (2, .int (nI 3))]) hx hb dX4_order_31 rfl hl (by decide) rfl (fun ls hl => ?_)
  refine lv_iload_n hx hb dX4_order_32 rfl (lv_at hl 3 rfl) ?_
  refine lv_tableIn (off := 49) (tgt := 82) hx hb dX4_order_33 (by decide) (by decide) (by decide) (by decide) ?_
  refine lv_aload_n hx hb dX4_order_82 rfl (lv_at hl 1 rfl) ?_
  refine lv_iload_n hx hb dX4_order_83 rfl (lv_at hl 0 rfl) ?_
  refine mr_callV (As := [.int (fX4_openSet (fX4_layAfter I b (185 + 8 * e0)) b)]) C0 (ctX4_first (I := (fX4_layAfter I b (185 + 8 * e0))) (J := J) (b := b) (u := (fX4_openSet (fX4_layAfter I b (185 + 8 * e0)) b)) hMo) (cwV 1 C0.1.2.2.2.2 gX4_order_X4_first rfl rfl rfl (by decide +kernel) (by rw [hR]; exact ⟨Nat.le_of_ble_eq_true rfl, Nat.le_of_ble_eq_true rfl⟩)) hM hMo.1.1 hMo.1.2 rfl rfl hM hS rfl rfl rfl hl.1 (Nat.le_of_ble_eq_true rfl) dX4_order_84 (by rw [hR]; exact ⟨Nat.zero_le _, Nat.zero_le _⟩) (fun H locs hM hS => ?_)
  skip
  exact mr_iret (v := fX4_first (fX4_layAfter I b (185 + 8 * e0)) b (fX4_openSet (fX4_layAfter I b (185 + 8 * e0)) b)) C0 hr hlk hQ hS rfl hM (Nat.le_refl _) (Nat.le_refl _) dX4_order_87
set_option maxHeartbeats 4000000 in
set_option maxRecDepth 100000 in
theorem ctX4_order_t4 {l : Launch} {D : va_G} {T : Nat → ClassId} {L : List Nat} {A : Nat → Prop} {Sh : hm_S} {I : hm_I} {J : hm_J} {b : Nat} (hMo : IsM L Sh b) {e0 : Nat} (he0 : e0 < 10) (ho : fX4_isOrder I b (nI e0) = true) :
    Ct l yX4_order wsX4_order { frames := 2, cells := 0, slots := 0, locals := 47 } 0 0 D T A [.ref b, .int (nI e0), .int (nI 4)] (hm D T L A Sh I J) (some (.int (fX4_superfluous (fX4_layAfter I b (185 + 8 * e0)) b (185 + 8 * e0)))) (hm D T L A Sh (fX4_layAfter I b (185 + 8 * e0)) J) := by
  refine Ct.ofW (cc := cX4_order) (maxL := 4) (ret := (some .int)) (by decide) rfl (Nat.le_of_ble_eq_true rfl) ?_
  intro p_ e_ s_ m_ args_ below_ meth_ c_ ls R Qq hR hQ C0 hr hlk hname hM hl
  have hx := C0.1.1
  have hb := C0.1.2.1
  have hS : va_S A s_.heap s_.heap [] := va_S.rf
  have hl : lv_has ls 4 [(0, .ref b), (1, .int (nI e0)), (2, .int (nI 4))] := hl
  refine lv_aload_n hx hb dX4_order_0 rfl (lv_at hl 0 rfl) ?_
  refine lv_iload_n hx hb dX4_order_1 rfl (lv_at hl 1 rfl) ?_
  refine mr_callV (As := [.int (nI e0)]) C0 (ctX4_isOrder (I := I) (J := J) (b := b) (e0 := (nI e0)) hMo) (cwV 1 C0.1.2.2.2.2 gX4_order_X4_isOrder rfl rfl rfl (by decide +kernel) (by rw [hR]; exact ⟨Nat.le_of_ble_eq_true rfl, Nat.le_of_ble_eq_true rfl⟩)) hM hMo.1.1 hMo.1.2 rfl rfl hM hS rfl rfl rfl hl.1 (Nat.le_of_ble_eq_true rfl) dX4_order_2 (by rw [hR]; exact ⟨Nat.zero_le _, Nat.zero_le _⟩) (fun H locs hM hS => ?_)
  refine mr_eqB (tgt := 17) C0 dX4_order_5 (by decide) (fun c1 => absurd c1 (by rw [ho]; decide)) (fun c1 => ?_)
  refine lv_iload_n hx hb dX4_order_8 rfl (lv_at hl 2 rfl) ?_
  refine lv_iconst (v := nI 0) hx hb dX4_order_9 (by decide) ?_
  refine lv_iconst (v := nI 4) hx hb dX4_order_10 (by decide) ?_
  refine mr_callS (As := [.int (nI 4), .int (nI 0), .int (nI 4)]) C0 (ctX4_isIn (I := I) (J := J) (v := (nI 4)) (lo := (nI 0)) (up := (nI 4)) ) (va_cwS 3 C0.1.2.2.2.2 gX4_order_X4_isIn rfl rfl rfl (by decide +kernel) (by rw [hR]; exact ⟨Nat.le_of_ble_eq_true rfl, Nat.le_of_ble_eq_true rfl⟩)) hM hS rfl rfl rfl hl.1 (Nat.le_of_ble_eq_true rfl) dX4_order_11 (by rw [hR]; exact ⟨Nat.zero_le _, Nat.zero_le _⟩) (fun H locs hM hS => ?_)
  refine mr_neB (tgt := 19) C0 dX4_order_14 (by decide) (fun c2 => ?_) (fun c2 => absurd c2 (by decide))
  refine lv_aload_n hx hb dX4_order_19 rfl (lv_at hl 0 rfl) ?_
  refine lv_iload_n hx hb dX4_order_20 rfl (lv_at hl 1 rfl) ?_
  refine mr_callS (As := [.int (nI e0)]) C0 (ctX4_orderOf_t (I := I) (J := J) (e0 := e0) (by omega)) (va_cwS 1 C0.1.2.2.2.2 gX4_order_X4_orderOf rfl rfl rfl (by decide +kernel) (by rw [hR]; exact ⟨Nat.le_of_ble_eq_true rfl, Nat.le_of_ble_eq_true rfl⟩)) hM hS rfl rfl rfl hl.1 (Nat.le_of_ble_eq_true rfl) dX4_order_21 (by rw [hR]; exact ⟨Nat.zero_le _, Nat.zero_le _⟩) (fun H locs hM hS => ?_)
  refine mr_callV (As := [.int (nI (185 + 8 * e0))]) C0 (ctX4_layAfter (I := I) (J := J) (b := b) (o := (185 + 8 * e0)) hMo (by omega)) (cwV 1 C0.1.2.2.2.2 gX4_order_X4_layAfter rfl rfl rfl (by decide +kernel) (by rw [hR]; exact ⟨Nat.le_of_ble_eq_true rfl, Nat.le_of_ble_eq_true rfl⟩)) hM hMo.1.1 hMo.1.2 rfl rfl hM hS rfl rfl rfl hl.1 (Nat.le_of_ble_eq_true rfl) dX4_order_24 (by rw [hR]; exact ⟨Nat.zero_le _, Nat.zero_le _⟩) (fun H locs hM hS => ?_)
  refine lv_aload_n hx hb dX4_order_27 rfl (lv_at hl 0 rfl) ?_
  refine mr_callV (As := []) C0 (ctX4_openSet (I := (fX4_layAfter I b (185 + 8 * e0))) (J := J) (b := b) hMo) (cwV 0 C0.1.2.2.2.2 gX4_order_X4_openSet rfl rfl rfl (by decide +kernel) (by rw [hR]; exact ⟨Nat.le_of_ble_eq_true rfl, Nat.le_of_ble_eq_true rfl⟩)) hM hMo.1.1 hMo.1.2 rfl rfl hM hS rfl rfl rfl hl.1 (Nat.le_of_ble_eq_true rfl) dX4_order_28 (by rw [hR]; exact ⟨Nat.zero_le _, Nat.zero_le _⟩) (fun H locs hM hS => ?_)
  refine lv_istore_n (lv' := [(3, .int (fX4_openSet (fX4_layAfter I b (185 + 8 * e0)) b)), (0, .ref b), (1, .int (nI e0)), (2, .int (nI 4))]) hx hb dX4_order_31 rfl hl (by decide) rfl (fun ls hl => ?_)
  refine lv_iload_n hx hb dX4_order_32 rfl (lv_at hl 3 rfl) ?_
  refine lv_tableOut (tgt := 88) hx hb dX4_order_33 (by decide) (by decide) ?_
  refine lv_aload_n hx hb dX4_order_88 rfl (lv_at hl 1 rfl) ?_
  refine lv_iload_n hx hb dX4_order_89 rfl (lv_at hl 2 rfl) ?_
  refine mr_callS (As := [.int (nI e0)]) C0 (ctX4_orderOf_t (I := (fX4_layAfter I b (185 + 8 * e0))) (J := J) (e0 := e0) (by omega)) (va_cwS 1 C0.1.2.2.2.2 gX4_order_X4_orderOf rfl rfl rfl (by decide +kernel) (by rw [hR]; exact ⟨Nat.le_of_ble_eq_true rfl, Nat.le_of_ble_eq_true rfl⟩)) hM hS rfl rfl rfl hl.1 (Nat.le_of_ble_eq_true rfl) dX4_order_90 (by rw [hR]; exact ⟨Nat.zero_le _, Nat.zero_le _⟩) (fun H locs hM hS => ?_)
  refine mr_callV (As := [.int (nI (185 + 8 * e0))]) C0 (ctX4_superfluous (I := (fX4_layAfter I b (185 + 8 * e0))) (J := J) (b := b) (o := (185 + 8 * e0)) hMo (by omega)) (cwV 1 C0.1.2.2.2.2 gX4_order_X4_superfluous rfl rfl rfl (by decide +kernel) (by rw [hR]; exact ⟨Nat.le_of_ble_eq_true rfl, Nat.le_of_ble_eq_true rfl⟩)) hM hMo.1.1 hMo.1.2 rfl rfl hM hS rfl rfl rfl hl.1 (Nat.le_of_ble_eq_true rfl) dX4_order_93 (by rw [hR]; exact ⟨Nat.zero_le _, Nat.zero_le _⟩) (fun H locs hM hS => ?_)
  skip
  exact mr_iret (v := fX4_superfluous (fX4_layAfter I b (185 + 8 * e0)) b (185 + 8 * e0)) C0 hr hlk hQ hS rfl hM (Nat.le_refl _) (Nat.le_refl _) dX4_order_96
def fX4_lists_t (I : hm_I) (J : hm_J) (b u0 : Nat) (e0 : Nat) : Int64 × hm_I × hm_J :=
  ((lp 255 (fun i34 x34 => (lp 8 (fun i51 x51 => if (nI (i34 + 1)) &&& ((nI u0) ^^^ (-1)) = 0 then if fX4_has (nI (i34 + 1)) (nI i51) = true then if ((fX4_layAfter I b (185 + 8 * e0)) (b + 4) i51) &&& (nI (i34 + 1)) = 0 then hm_putJ x51 (b + 8) (i34 + 1) ((x51 (b + 8) (i34 + 1)) + (x51 (b + 8) (((nI (i34 + 1)) &&& (((nI 1) <<< ((nI i51) &&& 31)) ^^^ (-1))).toNatClampNeg))) else hm_putJ x51 (b + 8) (i34 + 1) ((x51 (b + 8) (i34 + 1)) + 0) else hm_putJ x51 (b + 8) (i34 + 1) ((x51 (b + 8) (i34 + 1)) + 0) else hm_putJ x51 (b + 8) (i34 + 1) ((x51 (b + 8) (i34 + 1)) + 0)) (hm_putJ x34 (b + 8) (i34 + 1) 0))) (hm_putJ J (b + 8) 0 1)) (b + 8) u0, fX4_layAfter I b (185 + 8 * e0), (lp 255 (fun i34 x34 => (lp 8 (fun i51 x51 => if (nI (i34 + 1)) &&& ((nI u0) ^^^ (-1)) = 0 then if fX4_has (nI (i34 + 1)) (nI i51) = true then if ((fX4_layAfter I b (185 + 8 * e0)) (b + 4) i51) &&& (nI (i34 + 1)) = 0 then hm_putJ x51 (b + 8) (i34 + 1) ((x51 (b + 8) (i34 + 1)) + (x51 (b + 8) (((nI (i34 + 1)) &&& (((nI 1) <<< ((nI i51) &&& 31)) ^^^ (-1))).toNatClampNeg))) else hm_putJ x51 (b + 8) (i34 + 1) ((x51 (b + 8) (i34 + 1)) + 0) else hm_putJ x51 (b + 8) (i34 + 1) ((x51 (b + 8) (i34 + 1)) + 0) else hm_putJ x51 (b + 8) (i34 + 1) ((x51 (b + 8) (i34 + 1)) + 0)) (hm_putJ x34 (b + 8) (i34 + 1) 0))) (hm_putJ J (b + 8) 0 1)))
set_option maxHeartbeats 4000000 in
set_option maxRecDepth 100000 in
theorem ctX4_lists_t {l : Launch} {D : va_G} {T : Nat → ClassId} {L : List Nat} {A : Nat → Prop} {Sh : hm_S} {I : hm_I} {J : hm_J} {b : Nat} (hMo : IsM L Sh b) {e0 : Nat} (he0 : e0 < 10) (ho : fX4_isOrder I b (nI e0) = true) {u0 : Nat} (hu0 : u0 < 256) (hset : fX4_openSet (fX4_layAfter I b (185 + 8 * e0)) b = nI u0) :
    Ct l yX4_lists wsX4_lists { frames := 2, cells := 0, slots := 0, locals := 44 } 0 0 D T A [.ref b, .int (nI e0)] (hm D T L A Sh I J) (some (.long ((fX4_lists_t I J b u0 e0).1))) (hm D T L A Sh ((fX4_lists_t I J b u0 e0).2.1) ((fX4_lists_t I J b u0 e0).2.2)) := by
  refine Ct.ofW (cc := cX4_lists) (maxL := 6) (ret := (some .long)) (by decide) rfl (Nat.le_of_ble_eq_true rfl) ?_
  intro p_ e_ s_ m_ args_ below_ meth_ c_ ls R Qq hR hQ C0 hr hlk hname hM hl
  have hx := C0.1.1
  have hb := C0.1.2.1
  have hS : va_S A s_.heap s_.heap [] := va_S.rf
  have hl : lv_has ls 6 [(0, .ref b), (1, .int (nI e0))] := hl
  refine lv_aload_n hx hb dX4_lists_0 rfl (lv_at hl 0 rfl) ?_
  refine lv_iload_n hx hb dX4_lists_1 rfl (lv_at hl 1 rfl) ?_
  refine mr_callV (As := [.int (nI e0)]) C0 (ctX4_isOrder (I := I) (J := J) (b := b) (e0 := (nI e0)) hMo) (cwV 1 C0.1.2.2.2.2 gX4_lists_X4_isOrder rfl rfl rfl (by decide +kernel) (by rw [hR]; exact ⟨Nat.le_of_ble_eq_true rfl, Nat.le_of_ble_eq_true rfl⟩)) hM hMo.1.1 hMo.1.2 rfl rfl hM hS rfl rfl rfl hl.1 (Nat.le_of_ble_eq_true rfl) dX4_lists_2 (by rw [hR]; exact ⟨Nat.zero_le _, Nat.zero_le _⟩) (fun H locs hM hS => ?_)
  refine mr_neB (tgt := 12) C0 dX4_lists_5 (by decide) (fun c1 => ?_) (fun c1 => absurd c1 (by rw [ho]; decide))
  refine lv_aload_n hx hb dX4_lists_12 rfl (lv_at hl 0 rfl) ?_
  refine lv_iload_n hx hb dX4_lists_13 rfl (lv_at hl 1 rfl) ?_
  refine mr_callS (As := [.int (nI e0)]) C0 (ctX4_orderOf_t (I := I) (J := J) (e0 := e0) (by omega)) (va_cwS 1 C0.1.2.2.2.2 gX4_lists_X4_orderOf rfl rfl rfl (by decide +kernel) (by rw [hR]; exact ⟨Nat.le_of_ble_eq_true rfl, Nat.le_of_ble_eq_true rfl⟩)) hM hS rfl rfl rfl hl.1 (Nat.le_of_ble_eq_true rfl) dX4_lists_14 (by rw [hR]; exact ⟨Nat.zero_le _, Nat.zero_le _⟩) (fun H locs hM hS => ?_)
  refine mr_callV (As := [.int (nI (185 + 8 * e0))]) C0 (ctX4_layAfter (I := I) (J := J) (b := b) (o := (185 + 8 * e0)) hMo (by omega)) (cwV 1 C0.1.2.2.2.2 gX4_lists_X4_layAfter rfl rfl rfl (by decide +kernel) (by rw [hR]; exact ⟨Nat.le_of_ble_eq_true rfl, Nat.le_of_ble_eq_true rfl⟩)) hM hMo.1.1 hMo.1.2 rfl rfl hM hS rfl rfl rfl hl.1 (Nat.le_of_ble_eq_true rfl) dX4_lists_17 (by rw [hR]; exact ⟨Nat.zero_le _, Nat.zero_le _⟩) (fun H locs hM hS => ?_)
  refine lv_aload_n hx hb dX4_lists_20 rfl (lv_at hl 0 rfl) ?_
  refine mr_callV (As := []) C0 (ctX4_openSet (I := (fX4_layAfter I b (185 + 8 * e0))) (J := J) (b := b) hMo) (cwV 0 C0.1.2.2.2.2 gX4_lists_X4_openSet rfl rfl rfl (by decide +kernel) (by rw [hR]; exact ⟨Nat.le_of_ble_eq_true rfl, Nat.le_of_ble_eq_true rfl⟩)) hM hMo.1.1 hMo.1.2 rfl rfl hM hS rfl rfl rfl hl.1 (Nat.le_of_ble_eq_true rfl) dX4_lists_21 (by rw [hR]; exact ⟨Nat.zero_le _, Nat.zero_le _⟩) (fun H locs hM hS => ?_)
  refine mr_top (y := nI u0) hset ?_
  refine lv_istore_n (lv' := [(2, .int (nI u0)), (0, .ref b), (1, .int (nI e0))]) hx hb dX4_lists_24 rfl hl (by decide) rfl (fun ls hl => ?_)
  refine lv_aload_n hx hb dX4_lists_25 rfl (lv_at hl 1 rfl) ?_
  refine mr_getr (r := b + 8) (TT := TX4) (N := 10) C0 uX4_lists_X4 hM hMo.1.1 hMo.1.2 rfl 9 (by decide) rfl kX4_lists_f31 rfl dX4_lists_26 ?_
  refine lv_iconst (v := nI 0) hx hb dX4_lists_29 (by decide) ?_
  refine lv_lconst (v := 1) hx hb dX4_lists_30 (by decide) ?_
  refine mr_lastN C0 hM hS hMo.2.2.2.2.2.2.2.2.1 hMo.2.2.2.2.2.2.2.2.2 (by decide) (by decide) dX4_lists_31 (fun H locs hM hS => ?_)
  refine lv_iconst (v := nI 1) hx hb dX4_lists_32 (by decide) ?_
  refine lv_istore_n (lv' := [(3, .int (nI 1)), (2, .int (nI u0)), (0, .ref b), (1, .int (nI e0))]) hx hb dX4_lists_33 rfl hl (by decide) rfl (fun ls hl => ?_)
  refine lp_loop (σ := hm_J) (fun i34 x34 => ∀ (H : Heap) (locs : List Loc) (ls : Array Slot), hm D T L A Sh (fX4_layAfter I b (185 + 8 * e0)) x34 H → va_S A s_.heap H locs → lv_has ls 6 [(0, .ref b), (2, .int (nI u0)), (3, .int (nI (i34 + 1)))] → W p_ l e_ R s_ m_ args_ below_ meth_ c_ H locs 0 0 Qq (F0 m_ 34 ls [])) 255 (fun i34 x34 => (lp 8 (fun i51 x51 => if (nI (i34 + 1)) &&& ((nI u0) ^^^ (-1)) = 0 then if fX4_has (nI (i34 + 1)) (nI i51) = true then if ((fX4_layAfter I b (185 + 8 * e0)) (b + 4) i51) &&& (nI (i34 + 1)) = 0 then hm_putJ x51 (b + 8) (i34 + 1) ((x51 (b + 8) (i34 + 1)) + (x51 (b + 8) (((nI (i34 + 1)) &&& (((nI 1) <<< ((nI i51) &&& 31)) ^^^ (-1))).toNatClampNeg))) else hm_putJ x51 (b + 8) (i34 + 1) ((x51 (b + 8) (i34 + 1)) + 0) else hm_putJ x51 (b + 8) (i34 + 1) ((x51 (b + 8) (i34 + 1)) + 0) else hm_putJ x51 (b + 8) (i34 + 1) ((x51 (b + 8) (i34 + 1)) + 0)) (hm_putJ x34 (b + 8) (i34 + 1) 0))) (hm_putJ J (b + 8) 0 1) (fun _ _ => True) trivial (fun _ _ _ _ => trivial) (fun i34 x34 hi2 hv3 k4 H locs ls hM hS hl => ?_) (fun hv3 H locs ls hM hS hl => ?_) _ _ _ hM hS (lv_sub hl [2, 1, 0] rfl)
  · have stp5 : ∀ yy_ : hm_J, yy_ = ((lp 8 (fun i51 x51 => if (nI (i34 + 1)) &&& ((nI u0) ^^^ (-1)) = 0 then if fX4_has (nI (i34 + 1)) (nI i51) = true then if ((fX4_layAfter I b (185 + 8 * e0)) (b + 4) i51) &&& (nI (i34 + 1)) = 0 then hm_putJ x51 (b + 8) (i34 + 1) ((x51 (b + 8) (i34 + 1)) + (x51 (b + 8) (((nI (i34 + 1)) &&& (((nI 1) <<< ((nI i51) &&& 31)) ^^^ (-1))).toNatClampNeg))) else hm_putJ x51 (b + 8) (i34 + 1) ((x51 (b + 8) (i34 + 1)) + 0) else hm_putJ x51 (b + 8) (i34 + 1) ((x51 (b + 8) (i34 + 1)) + 0) else hm_putJ x51 (b + 8) (i34 + 1) ((x51 (b + 8) (i34 + 1)) + 0)) (hm_putJ x34 (b + 8) (i34 + 1) 0))) → ∀ (H : Heap) (locs : List Loc) (ls : Array Slot), hm D T L A Sh (fX4_layAfter I b (185 + 8 * e0)) yy_ H → va_S A s_.heap H locs → lv_has ls 6 [(0, .ref b), (2, .int (nI u0)), (3, .int (nI ((i34 + 1) + 1)))] → W p_ l e_ R s_ m_ args_ below_ meth_ c_ H locs 0 0 Qq (F0 m_ 34 ls []) := fun yy_ ey => by rw [ey]; exact k4
    refine lv_iload_n hx hb dX4_lists_34 rfl (lv_at hl 2 rfl) ?_
    refine lv_sipush (v := nI 256) hx hb dX4_lists_35 (by decide) ?_
    refine mr_geN (x := i34 + 1) (y := 256) (tgt := 137) C0 dX4_lists_38 (by decide) (by omega) (by omega) (fun c6 => absurd c6 (by omega)) (fun c6 => ?_)
    refine lv_aload_n hx hb dX4_lists_41 rfl (lv_at hl 0 rfl) ?_
    refine mr_getr (r := b + 8) (TT := TX4) (N := 10) C0 uX4_lists_X4 hM hMo.1.1 hMo.1.2 rfl 9 (by decide) rfl kX4_lists_f31 rfl dX4_lists_42 ?_
    refine lv_iload_n hx hb dX4_lists_45 rfl (lv_at hl 2 rfl) ?_
    refine lv_lconst (v := 0) hx hb dX4_lists_46 (by decide) ?_
    refine mr_lastN C0 hM hS hMo.2.2.2.2.2.2.2.2.1 hMo.2.2.2.2.2.2.2.2.2 (by decide) (by omega) dX4_lists_47 (fun H locs hM hS => ?_)
    refine lv_iconst (v := nI 0) hx hb dX4_lists_48 (by decide) ?_
    refine lv_istore (lv' := [(4, .int (nI 0)), (0, .ref b), (2, .int (nI u0)), (3, .int (nI (i34 + 1)))]) hx hb dX4_lists_49 hl (by decide) rfl (fun ls hl => ?_)
    refine lp_loop (σ := hm_J) (fun i51 x51 => ∀ (H : Heap) (locs : List Loc) (ls : Array Slot), hm D T L A Sh (fX4_layAfter I b (185 + 8 * e0)) x51 H → va_S A s_.heap H locs → lv_has ls 6 [(0, .ref b), (2, .int (nI u0)), (3, .int (nI (i34 + 1))), (4, .int (nI i51))] → W p_ l e_ R s_ m_ args_ below_ meth_ c_ H locs 0 0 Qq (F0 m_ 51 ls [])) 8 (fun i51 x51 => if (nI (i34 + 1)) &&& ((nI u0) ^^^ (-1)) = 0 then if fX4_has (nI (i34 + 1)) (nI i51) = true then if ((fX4_layAfter I b (185 + 8 * e0)) (b + 4) i51) &&& (nI (i34 + 1)) = 0 then hm_putJ x51 (b + 8) (i34 + 1) ((x51 (b + 8) (i34 + 1)) + (x51 (b + 8) (((nI (i34 + 1)) &&& (((nI 1) <<< ((nI i51) &&& 31)) ^^^ (-1))).toNatClampNeg))) else hm_putJ x51 (b + 8) (i34 + 1) ((x51 (b + 8) (i34 + 1)) + 0) else hm_putJ x51 (b + 8) (i34 + 1) ((x51 (b + 8) (i34 + 1)) + 0) else hm_putJ x51 (b + 8) (i34 + 1) ((x51 (b + 8) (i34 + 1)) + 0)) (hm_putJ x34 (b + 8) (i34 + 1) 0) (fun _ _ => True) trivial (fun _ _ _ _ => trivial) (fun i51 x51 hi7 hv8 k9 H locs ls hM hS hl => ?_) (fun hv8 H locs ls hM hS hl => ?_) _ _ _ hM hS (lv_sub hl [1, 2, 3, 0] rfl)
    · have stp10 : ∀ yy_ : hm_J, yy_ = (if (nI (i34 + 1)) &&& ((nI u0) ^^^ (-1)) = 0 then if fX4_has (nI (i34 + 1)) (nI i51) = true then if ((fX4_layAfter I b (185 + 8 * e0)) (b + 4) i51) &&& (nI (i34 + 1)) = 0 then hm_putJ x51 (b + 8) (i34 + 1) ((x51 (b + 8) (i34 + 1)) + (x51 (b + 8) (((nI (i34 + 1)) &&& (((nI 1) <<< ((nI i51) &&& 31)) ^^^ (-1))).toNatClampNeg))) else hm_putJ x51 (b + 8) (i34 + 1) ((x51 (b + 8) (i34 + 1)) + 0) else hm_putJ x51 (b + 8) (i34 + 1) ((x51 (b + 8) (i34 + 1)) + 0) else hm_putJ x51 (b + 8) (i34 + 1) ((x51 (b + 8) (i34 + 1)) + 0)) → ∀ (H : Heap) (locs : List Loc) (ls : Array Slot), hm D T L A Sh (fX4_layAfter I b (185 + 8 * e0)) yy_ H → va_S A s_.heap H locs → lv_has ls 6 [(0, .ref b), (2, .int (nI u0)), (3, .int (nI (i34 + 1))), (4, .int (nI (i51 + 1)))] → W p_ l e_ R s_ m_ args_ below_ meth_ c_ H locs 0 0 Qq (F0 m_ 51 ls []) := fun yy_ ey => by rw [ey]; exact k9
      refine lv_iload hx hb dX4_lists_51 (lv_at hl 3 rfl) ?_
      refine lv_bipush (v := nI 8) hx hb dX4_lists_53 (by decide) ?_
      refine mr_geN (x := i51) (y := 8) (tgt := 131) C0 dX4_lists_55 (by decide) (by omega) (by omega) (fun c11 => absurd c11 (by omega)) (fun c11 => ?_)
      refine lv_iload_n hx hb dX4_lists_58 rfl (lv_at hl 2 rfl) ?_
      refine lv_iload_n hx hb dX4_lists_59 rfl (lv_at hl 1 rfl) ?_
      refine lv_iconst (v := (-1)) hx hb dX4_lists_60 (by decide) ?_
      refine lv_ixor hx hb dX4_lists_61 ?_
      refine lv_iand hx hb dX4_lists_62 ?_
      refine lv_if_ne (tgt := 91) hx hb dX4_lists_63 (by decide) (fun c12 => ?_) (fun c12 => ?_)
      · skip
        refine lv_iconst (v := nI 0) hx hb dX4_lists_91 (by decide) ?_
        refine lv_istore (lv' := [(5, .int (nI 0)), (0, .ref b), (2, .int (nI u0)), (3, .int (nI (i34 + 1))), (4, .int (nI i51))]) hx hb dX4_lists_92 hl (by decide) rfl (fun ls hl => ?_)
        refine lv_aload_n hx hb dX4_lists_94 rfl (lv_at hl 1 rfl) ?_
        refine mr_getr (r := b + 8) (TT := TX4) (N := 10) C0 uX4_lists_X4 hM hMo.1.1 hMo.1.2 rfl 9 (by decide) rfl kX4_lists_f31 rfl dX4_lists_95 ?_
        refine lv_iload_n hx hb dX4_lists_98 rfl (lv_at hl 3 rfl) ?_
        refine lv_dup2_11 hx hb dX4_lists_99 rfl rfl ?_
        refine mr_laldN (v := x51 (b + 8) (i34 + 1)) C0 hM hMo.2.2.2.2.2.2.2.2.1 hMo.2.2.2.2.2.2.2.2.2 (by decide) (by omega) rfl dX4_lists_100 ?_
        refine lv_iload hx hb dX4_lists_101 (lv_at hl 0 rfl) ?_
        refine lv_if_eq (x := nI 0) (tgt := 122) hx hb dX4_lists_103 (by decide) (fun _ => ?_) (fun c13 => absurd c13 (by decide))
        refine lv_lconst (v := 0) hx hb dX4_lists_122 (by decide) ?_
        refine lv_ladd hx hb dX4_lists_123 ?_
        refine mr_lastN C0 hM hS hMo.2.2.2.2.2.2.2.2.1 hMo.2.2.2.2.2.2.2.2.2 (by decide) (by omega) dX4_lists_124 (fun H locs hM hS => ?_)
        refine lv_iinc (v := nI (i51 + 1)) (lv' := [(4, .int (nI (i51 + 1))), (5, .int (nI 0)), (0, .ref b), (2, .int (nI u0)), (3, .int (nI (i34 + 1)))]) hx hb dX4_lists_125 hl (k := 4) rfl (nI_1 _) (by decide) rfl (fun ls hl => ?_)
        refine lv_goto (tgt := 51) hx hb dX4_lists_128 (by decide) ?_
        exact stp10 (hm_putJ x51 (b + 8) (i34 + 1) ((x51 (b + 8) (i34 + 1)) + 0)) (by rw [if_neg c12]) H locs ls hM hS (lv_sub hl [2, 3, 4, 0] rfl)
      · skip
        refine lv_iload_n hx hb dX4_lists_66 rfl (lv_at hl 2 rfl) ?_
        refine lv_iload hx hb dX4_lists_67 (lv_at hl 3 rfl) ?_
        refine mr_callS (As := [.int (nI (i34 + 1)), .int (nI i51)]) C0 (ctX4_has (I := (fX4_layAfter I b (185 + 8 * e0))) (J := x51) (u := (nI (i34 + 1))) (s0 := (nI i51)) ) (va_cwS 2 C0.1.2.2.2.2 gX4_lists_X4_has rfl rfl rfl (by decide +kernel) (by rw [hR]; exact ⟨Nat.le_of_ble_eq_true rfl, Nat.le_of_ble_eq_true rfl⟩)) hM hS rfl rfl rfl hl.1 (Nat.le_of_ble_eq_true rfl) dX4_lists_69 (by rw [hR]; exact ⟨Nat.zero_le _, Nat.zero_le _⟩) (fun H locs hM hS => ?_)
        refine mr_eqB (tgt := 91) C0 dX4_lists_72 (by decide) (fun c14 => ?_) (fun c14 => ?_)
        · skip
          refine lv_iconst (v := nI 0) hx hb dX4_lists_91 (by decide) ?_
          refine lv_istore (lv' := [(5, .int (nI 0)), (0, .ref b), (2, .int (nI u0)), (3, .int (nI (i34 + 1))), (4, .int (nI i51))]) hx hb dX4_lists_92 hl (by decide) rfl (fun ls hl => ?_)
          refine lv_aload_n hx hb dX4_lists_94 rfl (lv_at hl 1 rfl) ?_
          refine mr_getr (r := b + 8) (TT := TX4) (N := 10) C0 uX4_lists_X4 hM hMo.1.1 hMo.1.2 rfl 9 (by decide) rfl kX4_lists_f31 rfl dX4_lists_95 ?_
          refine lv_iload_n hx hb dX4_lists_98 rfl (lv_at hl 3 rfl) ?_
          refine lv_dup2_11 hx hb dX4_lists_99 rfl rfl ?_
          refine mr_laldN (v := x51 (b + 8) (i34 + 1)) C0 hM hMo.2.2.2.2.2.2.2.2.1 hMo.2.2.2.2.2.2.2.2.2 (by decide) (by omega) rfl dX4_lists_100 ?_
          refine lv_iload hx hb dX4_lists_101 (lv_at hl 0 rfl) ?_
          refine lv_if_eq (x := nI 0) (tgt := 122) hx hb dX4_lists_103 (by decide) (fun _ => ?_) (fun c15 => absurd c15 (by decide))
          refine lv_lconst (v := 0) hx hb dX4_lists_122 (by decide) ?_
          refine lv_ladd hx hb dX4_lists_123 ?_
          refine mr_lastN C0 hM hS hMo.2.2.2.2.2.2.2.2.1 hMo.2.2.2.2.2.2.2.2.2 (by decide) (by omega) dX4_lists_124 (fun H locs hM hS => ?_)
          refine lv_iinc (v := nI (i51 + 1)) (lv' := [(4, .int (nI (i51 + 1))), (5, .int (nI 0)), (0, .ref b), (2, .int (nI u0)), (3, .int (nI (i34 + 1)))]) hx hb dX4_lists_125 hl (k := 4) rfl (nI_1 _) (by decide) rfl (fun ls hl => ?_)
          refine lv_goto (tgt := 51) hx hb dX4_lists_128 (by decide) ?_
          exact stp10 (hm_putJ x51 (b + 8) (i34 + 1) ((x51 (b + 8) (i34 + 1)) + 0)) (by rw [if_pos c12, if_neg (Bool.eq_false_iff.mp c14)]) H locs ls hM hS (lv_sub hl [2, 3, 4, 0] rfl)
        · skip
          refine lv_aload_n hx hb dX4_lists_75 rfl (lv_at hl 0 rfl) ?_
          refine mr_getr (r := b + 4) (TT := TX4) (N := 10) C0 uX4_lists_X4 hM hMo.1.1 hMo.1.2 rfl 5 (by decide) rfl kX4_lists_f19 rfl dX4_lists_76 ?_
          refine lv_iload hx hb dX4_lists_79 (lv_at hl 3 rfl) ?_
          refine mr_ialdN (v := (fX4_layAfter I b (185 + 8 * e0)) (b + 4) i51) C0 hM hMo.2.2.2.2.1.1 hMo.2.2.2.2.1.2 (by decide) (by omega) rfl dX4_lists_81 ?_
          refine lv_iload_n hx hb dX4_lists_82 rfl (lv_at hl 2 rfl) ?_
          refine lv_iand hx hb dX4_lists_83 ?_
          refine lv_if_ne (tgt := 91) hx hb dX4_lists_84 (by decide) (fun c16 => ?_) (fun c16 => ?_)
          · skip
            refine lv_iconst (v := nI 0) hx hb dX4_lists_91 (by decide) ?_
            refine lv_istore (lv' := [(5, .int (nI 0)), (0, .ref b), (2, .int (nI u0)), (3, .int (nI (i34 + 1))), (4, .int (nI i51))]) hx hb dX4_lists_92 hl (by decide) rfl (fun ls hl => ?_)
            refine lv_aload_n hx hb dX4_lists_94 rfl (lv_at hl 1 rfl) ?_
            refine mr_getr (r := b + 8) (TT := TX4) (N := 10) C0 uX4_lists_X4 hM hMo.1.1 hMo.1.2 rfl 9 (by decide) rfl kX4_lists_f31 rfl dX4_lists_95 ?_
            refine lv_iload_n hx hb dX4_lists_98 rfl (lv_at hl 3 rfl) ?_
            refine lv_dup2_11 hx hb dX4_lists_99 rfl rfl ?_
            refine mr_laldN (v := x51 (b + 8) (i34 + 1)) C0 hM hMo.2.2.2.2.2.2.2.2.1 hMo.2.2.2.2.2.2.2.2.2 (by decide) (by omega) rfl dX4_lists_100 ?_
            refine lv_iload hx hb dX4_lists_101 (lv_at hl 0 rfl) ?_
            refine lv_if_eq (x := nI 0) (tgt := 122) hx hb dX4_lists_103 (by decide) (fun _ => ?_) (fun c17 => absurd c17 (by decide))
            refine lv_lconst (v := 0) hx hb dX4_lists_122 (by decide) ?_
            refine lv_ladd hx hb dX4_lists_123 ?_
            refine mr_lastN C0 hM hS hMo.2.2.2.2.2.2.2.2.1 hMo.2.2.2.2.2.2.2.2.2 (by decide) (by omega) dX4_lists_124 (fun H locs hM hS => ?_)
            refine lv_iinc (v := nI (i51 + 1)) (lv' := [(4, .int (nI (i51 + 1))), (5, .int (nI 0)), (0, .ref b), (2, .int (nI u0)), (3, .int (nI (i34 + 1)))]) hx hb dX4_lists_125 hl (k := 4) rfl (nI_1 _) (by decide) rfl (fun ls hl => ?_)
            refine lv_goto (tgt := 51) hx hb dX4_lists_128 (by decide) ?_
            exact stp10 (hm_putJ x51 (b + 8) (i34 + 1) ((x51 (b + 8) (i34 + 1)) + 0)) (by rw [if_pos c12, if_pos c14, if_neg c16]) H locs ls hM hS (lv_sub hl [2, 3, 4, 0] rfl)
          · skip
            refine lv_iconst (v := nI 1) hx hb dX4_lists_87 (by decide) ?_
            refine lv_goto (tgt := 92) hx hb dX4_lists_88 (by decide) ?_
            refine lv_istore (lv' := [(5, .int (nI 1)), (0, .ref b), (2, .int (nI u0)), (3, .int (nI (i34 + 1))), (4, .int (nI i51))]) hx hb dX4_lists_92 hl (by decide) rfl (fun ls hl => ?_)
            refine lv_aload_n hx hb dX4_lists_94 rfl (lv_at hl 1 rfl) ?_
            refine mr_getr (r := b + 8) (TT := TX4) (N := 10) C0 uX4_lists_X4 hM hMo.1.1 hMo.1.2 rfl 9 (by decide) rfl kX4_lists_f31 rfl dX4_lists_95 ?_
            refine lv_iload_n hx hb dX4_lists_98 rfl (lv_at hl 3 rfl) ?_
            refine lv_dup2_11 hx hb dX4_lists_99 rfl rfl ?_
            refine mr_laldN (v := x51 (b + 8) (i34 + 1)) C0 hM hMo.2.2.2.2.2.2.2.2.1 hMo.2.2.2.2.2.2.2.2.2 (by decide) (by omega) rfl dX4_lists_100 ?_
            refine lv_iload hx hb dX4_lists_101 (lv_at hl 0 rfl) ?_
            refine lv_if_eq (x := nI 1) (tgt := 122) hx hb dX4_lists_103 (by decide) (fun c18 => absurd c18 (by decide)) (fun _ => ?_)
            refine lv_aload_n hx hb dX4_lists_106 rfl (lv_at hl 1 rfl) ?_
            refine mr_getr (r := b + 8) (TT := TX4) (N := 10) C0 uX4_lists_X4 hM hMo.1.1 hMo.1.2 rfl 9 (by decide) rfl kX4_lists_f31 rfl dX4_lists_107 ?_
            refine lv_iload_n hx hb dX4_lists_110 rfl (lv_at hl 3 rfl) ?_
            refine lv_iconst (v := nI 1) hx hb dX4_lists_111 (by decide) ?_
            refine lv_iload hx hb dX4_lists_112 (lv_at hl 4 rfl) ?_
            refine lv_ishl hx hb dX4_lists_114 ?_
            refine lv_iconst (v := (-1)) hx hb dX4_lists_115 (by decide) ?_
            refine lv_ixor hx hb dX4_lists_116 ?_
            refine lv_iand hx hb dX4_lists_117 ?_
            have hw19 := clr_lt (u := (i34 + 1)) (by omega) (((nI 1) <<< ((nI i51) &&& 31)) ^^^ (-1))
            refine mr_top (y := nI (((nI (i34 + 1)) &&& (((nI 1) <<< ((nI i51) &&& 31)) ^^^ (-1))).toNatClampNeg)) hw19.2 ?_
            refine mr_laldN (v := x51 (b + 8) (((nI (i34 + 1)) &&& (((nI 1) <<< ((nI i51) &&& 31)) ^^^ (-1))).toNatClampNeg)) C0 hM hMo.2.2.2.2.2.2.2.2.1 hMo.2.2.2.2.2.2.2.2.2 (by decide) (by omega) rfl dX4_lists_118 ?_
            refine lv_goto (tgt := 123) hx hb dX4_lists_119 (by decide) ?_
            refine lv_ladd hx hb dX4_lists_123 ?_
            refine mr_lastN C0 hM hS hMo.2.2.2.2.2.2.2.2.1 hMo.2.2.2.2.2.2.2.2.2 (by decide) (by omega) dX4_lists_124 (fun H locs hM hS => ?_)
            refine lv_iinc (v := nI (i51 + 1)) (lv' := [(4, .int (nI (i51 + 1))), (5, .int (nI 1)), (0, .ref b), (2, .int (nI u0)), (3, .int (nI (i34 + 1)))]) hx hb dX4_lists_125 hl (k := 4) rfl (nI_1 _) (by decide) rfl (fun ls hl => ?_)
            refine lv_goto (tgt := 51) hx hb dX4_lists_128 (by decide) ?_
            exact stp10 (hm_putJ x51 (b + 8) (i34 + 1) ((x51 (b + 8) (i34 + 1)) + (x51 (b + 8) (((nI (i34 + 1)) &&& (((nI 1) <<< ((nI i51) &&& 31)) ^^^ (-1))).toNatClampNeg)))) (by rw [if_pos c12, if_pos c14, if_pos c16]) H locs ls hM hS (lv_sub hl [2, 3, 4, 0] rfl)
    · skip
      refine lv_iload hx hb dX4_lists_51 (lv_at hl 3 rfl) ?_
      refine lv_bipush (v := nI 8) hx hb dX4_lists_53 (by decide) ?_
      refine mr_geN (x := 8) (y := 8) (tgt := 131) C0 dX4_lists_55 (by decide) (by decide) (by decide) (fun _ => ?_) (fun c20 => absurd c20 (by decide))
      refine lv_iinc (v := nI (i34 + 1 + 1)) (lv' := [(3, .int (nI (i34 + 1 + 1))), (0, .ref b), (2, .int (nI u0)), (4, .int (nI 8))]) hx hb dX4_lists_131 hl (k := 2) rfl (nI_1 _) (by decide) rfl (fun ls hl => ?_)
      refine lv_goto (tgt := 34) hx hb dX4_lists_134 (by decide) ?_
      exact stp5 (lp 8 (fun i51 x51 => if (nI (i34 + 1)) &&& ((nI u0) ^^^ (-1)) = 0 then if fX4_has (nI (i34 + 1)) (nI i51) = true then if ((fX4_layAfter I b (185 + 8 * e0)) (b + 4) i51) &&& (nI (i34 + 1)) = 0 then hm_putJ x51 (b + 8) (i34 + 1) ((x51 (b + 8) (i34 + 1)) + (x51 (b + 8) (((nI (i34 + 1)) &&& (((nI 1) <<< ((nI i51) &&& 31)) ^^^ (-1))).toNatClampNeg))) else hm_putJ x51 (b + 8) (i34 + 1) ((x51 (b + 8) (i34 + 1)) + 0) else hm_putJ x51 (b + 8) (i34 + 1) ((x51 (b + 8) (i34 + 1)) + 0) else hm_putJ x51 (b + 8) (i34 + 1) ((x51 (b + 8) (i34 + 1)) + 0)) (hm_putJ x34 (b + 8) (i34 + 1) 0)) rfl H locs ls hM hS (lv_sub hl [1, 2, 0] rfl)
  · skip
    refine lv_iload_n hx hb dX4_lists_34 rfl (lv_at hl 2 rfl) ?_
    refine lv_sipush (v := nI 256) hx hb dX4_lists_35 (by decide) ?_
    refine mr_geN (x := 255 + 1) (y := 256) (tgt := 137) C0 dX4_lists_38 (by decide) (by omega) (by omega) (fun c21 => ?_) (fun c21 => absurd c21 (by omega))
    refine lv_aload_n hx hb dX4_lists_137 rfl (lv_at hl 0 rfl) ?_
    refine mr_getr (r := b + 8) (TT := TX4) (N := 10) C0 uX4_lists_X4 hM hMo.1.1 hMo.1.2 rfl 9 (by decide) rfl kX4_lists_f31 rfl dX4_lists_138 ?_
    refine lv_iload_n hx hb dX4_lists_141 rfl (lv_at hl 1 rfl) ?_
    refine mr_laldN (v := (lp 255 (fun i34 x34 => (lp 8 (fun i51 x51 => if (nI (i34 + 1)) &&& ((nI u0) ^^^ (-1)) = 0 then if fX4_has (nI (i34 + 1)) (nI i51) = true then if ((fX4_layAfter I b (185 + 8 * e0)) (b + 4) i51) &&& (nI (i34 + 1)) = 0 then hm_putJ x51 (b + 8) (i34 + 1) ((x51 (b + 8) (i34 + 1)) + (x51 (b + 8) (((nI (i34 + 1)) &&& (((nI 1) <<< ((nI i51) &&& 31)) ^^^ (-1))).toNatClampNeg))) else hm_putJ x51 (b + 8) (i34 + 1) ((x51 (b + 8) (i34 + 1)) + 0) else hm_putJ x51 (b + 8) (i34 + 1) ((x51 (b + 8) (i34 + 1)) + 0) else hm_putJ x51 (b + 8) (i34 + 1) ((x51 (b + 8) (i34 + 1)) + 0)) (hm_putJ x34 (b + 8) (i34 + 1) 0))) (hm_putJ J (b + 8) 0 1)) (b + 8) u0) C0 hM hMo.2.2.2.2.2.2.2.2.1 hMo.2.2.2.2.2.2.2.2.2 (by decide) (by omega) rfl dX4_lists_142 ?_
    have eF : ((lp 255 (fun i34 x34 => (lp 8 (fun i51 x51 => if (nI (i34 + 1)) &&& ((nI u0) ^^^ (-1)) = 0 then if fX4_has (nI (i34 + 1)) (nI i51) = true then if ((fX4_layAfter I b (185 + 8 * e0)) (b + 4) i51) &&& (nI (i34 + 1)) = 0 then hm_putJ x51 (b + 8) (i34 + 1) ((x51 (b + 8) (i34 + 1)) + (x51 (b + 8) (((nI (i34 + 1)) &&& (((nI 1) <<< ((nI i51) &&& 31)) ^^^ (-1))).toNatClampNeg))) else hm_putJ x51 (b + 8) (i34 + 1) ((x51 (b + 8) (i34 + 1)) + 0) else hm_putJ x51 (b + 8) (i34 + 1) ((x51 (b + 8) (i34 + 1)) + 0) else hm_putJ x51 (b + 8) (i34 + 1) ((x51 (b + 8) (i34 + 1)) + 0)) (hm_putJ x34 (b + 8) (i34 + 1) 0))) (hm_putJ J (b + 8) 0 1)) (b + 8) u0, fX4_layAfter I b (185 + 8 * e0), (lp 255 (fun i34 x34 => (lp 8 (fun i51 x51 => if (nI (i34 + 1)) &&& ((nI u0) ^^^ (-1)) = 0 then if fX4_has (nI (i34 + 1)) (nI i51) = true then if ((fX4_layAfter I b (185 + 8 * e0)) (b + 4) i51) &&& (nI (i34 + 1)) = 0 then hm_putJ x51 (b + 8) (i34 + 1) ((x51 (b + 8) (i34 + 1)) + (x51 (b + 8) (((nI (i34 + 1)) &&& (((nI 1) <<< ((nI i51) &&& 31)) ^^^ (-1))).toNatClampNeg))) else hm_putJ x51 (b + 8) (i34 + 1) ((x51 (b + 8) (i34 + 1)) + 0) else hm_putJ x51 (b + 8) (i34 + 1) ((x51 (b + 8) (i34 + 1)) + 0) else hm_putJ x51 (b + 8) (i34 + 1) ((x51 (b + 8) (i34 + 1)) + 0)) (hm_putJ x34 (b + 8) (i34 + 1) 0))) (hm_putJ J (b + 8) 0 1))) = fX4_lists_t I J b u0 e0 := rfl
    exact mr_lret (v := (lp 255 (fun i34 x34 => (lp 8 (fun i51 x51 => if (nI (i34 + 1)) &&& ((nI u0) ^^^ (-1)) = 0 then if fX4_has (nI (i34 + 1)) (nI i51) = true then if ((fX4_layAfter I b (185 + 8 * e0)) (b + 4) i51) &&& (nI (i34 + 1)) = 0 then hm_putJ x51 (b + 8) (i34 + 1) ((x51 (b + 8) (i34 + 1)) + (x51 (b + 8) (((nI (i34 + 1)) &&& (((nI 1) <<< ((nI i51) &&& 31)) ^^^ (-1))).toNatClampNeg))) else hm_putJ x51 (b + 8) (i34 + 1) ((x51 (b + 8) (i34 + 1)) + 0) else hm_putJ x51 (b + 8) (i34 + 1) ((x51 (b + 8) (i34 + 1)) + 0) else hm_putJ x51 (b + 8) (i34 + 1) ((x51 (b + 8) (i34 + 1)) + 0)) (hm_putJ x34 (b + 8) (i34 + 1) 0))) (hm_putJ J (b + 8) 0 1)) (b + 8) u0) C0 hr hlk hQ hS (by rw [← eF]) (by rw [← eF]; exact hM) (Nat.le_refl _) (Nat.le_refl _) dX4_lists_143
set_option maxHeartbeats 4000000 in
set_option maxRecDepth 100000 in
theorem ctX4_witness_b {l : Launch} {D : va_G} {T : Nat → ClassId} {L : List Nat} {A : Nat → Prop} {Sh : hm_S} {I : hm_I} {J : hm_J} {b : Nat} (hMo : IsM L Sh b) {a0 b0 k0 : Int32} (hb0 : fX4_isStream a0 = true → fX4_isStream b0 = true → ¬ a0 = b0 → ¬ (-1) ≤ k0) :
    Ct l yX4_witness wsX4_witness { frames := 2, cells := 0, slots := 0, locals := 42 } 0 0 D T A [.ref b, .int a0, .int b0, .int k0] (hm D T L A Sh I J) (some (.int (-1))) (hm D T L A Sh I J) := by
  refine Ct.ofW (cc := cX4_witness) (maxL := 7) (ret := (some .int)) (by decide) rfl (Nat.le_of_ble_eq_true rfl) ?_
  intro p_ e_ s_ m_ args_ below_ meth_ c_ ls R Qq hR hQ C0 hr hlk hname hM hl
  have hx := C0.1.1
  have hb := C0.1.2.1
  have hS : va_S A s_.heap s_.heap [] := va_S.rf
  have hl : lv_has ls 7 [(0, .ref b), (1, .int a0), (2, .int b0), (3, .int k0)] := hl
  refine lv_iload_n hx hb dX4_witness_0 rfl (lv_at hl 1 rfl) ?_
  refine mr_callS (As := [.int a0]) C0 (ctX4_isStream (I := I) (J := J) (s0 := a0) ) (va_cwS 1 C0.1.2.2.2.2 gX4_witness_X4_isStream rfl rfl rfl (by decide +kernel) (by rw [hR]; exact ⟨Nat.le_of_ble_eq_true rfl, Nat.le_of_ble_eq_true rfl⟩)) hM hS rfl rfl rfl hl.1 (Nat.le_of_ble_eq_true rfl) dX4_witness_1 (by rw [hR]; exact ⟨Nat.zero_le _, Nat.zero_le _⟩) (fun H locs hM hS => ?_)
  refine mr_eqB (tgt := 24) C0 dX4_witness_4 (by decide) (fun c1 => ?_) (fun c1 => ?_)
  · skip
    refine lv_iconst (v := (-1)) hx hb dX4_witness_24 (by decide) ?_
    skip
    exact mr_iret (v := (-1)) C0 hr hlk hQ hS rfl hM (Nat.le_refl _) (Nat.le_refl _) dX4_witness_25
  · skip
    refine lv_iload_n hx hb dX4_witness_7 rfl (lv_at hl 2 rfl) ?_
    refine mr_callS (As := [.int b0]) C0 (ctX4_isStream (I := I) (J := J) (s0 := b0) ) (va_cwS 1 C0.1.2.2.2.2 gX4_witness_X4_isStream rfl rfl rfl (by decide +kernel) (by rw [hR]; exact ⟨Nat.le_of_ble_eq_true rfl, Nat.le_of_ble_eq_true rfl⟩)) hM hS rfl rfl rfl hl.1 (Nat.le_of_ble_eq_true rfl) dX4_witness_8 (by rw [hR]; exact ⟨Nat.zero_le _, Nat.zero_le _⟩) (fun H locs hM hS => ?_)
    refine mr_eqB (tgt := 24) C0 dX4_witness_11 (by decide) (fun c2 => ?_) (fun c2 => ?_)
    · skip
      refine lv_iconst (v := (-1)) hx hb dX4_witness_24 (by decide) ?_
      skip
      exact mr_iret (v := (-1)) C0 hr hlk hQ hS rfl hM (Nat.le_refl _) (Nat.le_refl _) dX4_witness_25
    · skip
      refine lv_iload_n hx hb dX4_witness_14 rfl (lv_at hl 1 rfl) ?_
      refine lv_iload_n hx hb dX4_witness_15 rfl (lv_at hl 2 rfl) ?_
      refine lv_icmp_eq (tgt := 24) hx hb dX4_witness_16 (by decide) (fun c3 => ?_) (fun c3 => ?_)
      · skip
        refine lv_iconst (v := (-1)) hx hb dX4_witness_24 (by decide) ?_
        skip
        exact mr_iret (v := (-1)) C0 hr hlk hQ hS rfl hM (Nat.le_refl _) (Nat.le_refl _) dX4_witness_25
      · skip
        refine lv_iload_n hx hb dX4_witness_19 rfl (lv_at hl 3 rfl) ?_
        refine lv_iconst (v := (-1)) hx hb dX4_witness_20 (by decide) ?_
        refine lv_icmp_ge (tgt := 26) hx hb dX4_witness_21 (by decide) (fun c4 => absurd c4 (hb0 c1 c2 c3)) (fun c4 => ?_)
        refine lv_iconst (v := (-1)) hx hb dX4_witness_24 (by decide) ?_
        skip
        exact mr_iret (v := (-1)) C0 hr hlk hQ hS rfl hM (Nat.le_refl _) (Nat.le_refl _) dX4_witness_25
set_option maxHeartbeats 4000000 in
set_option maxRecDepth 100000 in
theorem ctX4_witness_m {l : Launch} {D : va_G} {T : Nat → ClassId} {L : List Nat} {A : Nat → Prop} {Sh : hm_S} {I : hm_I} {J : hm_J} {b : Nat} (hMo : IsM L Sh b) {a0 b0 : Nat} (ha0 : a0 < 8) (hb0 : b0 < 8) (hab : a0 ≠ b0) :
    Ct l yX4_witness wsX4_witness { frames := 2, cells := 0, slots := 0, locals := 45 } 0 0 D T A [.ref b, .int (nI a0), .int (nI b0), .int (-1)] (hm D T L A Sh I J) (some (.int ((fX4_layLeft I b a0) (b + 6) b0))) (hm D T L A Sh (fX4_layLeft I b a0) J) := by
  refine Ct.ofW (cc := cX4_witness) (maxL := 7) (ret := (some .int)) (by decide) rfl (Nat.le_of_ble_eq_true rfl) ?_
  intro p_ e_ s_ m_ args_ below_ meth_ c_ ls R Qq hR hQ C0 hr hlk hname hM hl
  have hx := C0.1.1
  have hb := C0.1.2.1
  have hS : va_S A s_.heap s_.heap [] := va_S.rf
  have hl : lv_has ls 7 [(0, .ref b), (1, .int (nI a0)), (2, .int (nI b0)), (3, .int (-1))] := hl
  refine lv_iload_n hx hb dX4_witness_0 rfl (lv_at hl 1 rfl) ?_
  refine mr_callS (As := [.int (nI a0)]) C0 (isStreamM_t (I := I) (J := J) (s0 := a0) (by omega)) (va_cwS 1 C0.1.2.2.2.2 gX4_witness_X4_isStream rfl rfl rfl (by decide +kernel) (by rw [hR]; exact ⟨Nat.le_of_ble_eq_true rfl, Nat.le_of_ble_eq_true rfl⟩)) hM hS rfl rfl rfl hl.1 (Nat.le_of_ble_eq_true rfl) dX4_witness_1 (by rw [hR]; exact ⟨Nat.zero_le _, Nat.zero_le _⟩) (fun H locs hM hS => ?_)
  refine mr_eqB (tgt := 24) C0 dX4_witness_4 (by decide) (fun c1 => absurd c1 (by decide)) (fun _ => ?_)
  refine lv_iload_n hx hb dX4_witness_7 rfl (lv_at hl 2 rfl) ?_
  refine mr_callS (As := [.int (nI b0)]) C0 (isStreamM_t (I := I) (J := J) (s0 := b0) (by omega)) (va_cwS 1 C0.1.2.2.2.2 gX4_witness_X4_isStream rfl rfl rfl (by decide +kernel) (by rw [hR]; exact ⟨Nat.le_of_ble_eq_true rfl, Nat.le_of_ble_eq_true rfl⟩)) hM hS rfl rfl rfl hl.1 (Nat.le_of_ble_eq_true rfl) dX4_witness_8 (by rw [hR]; exact ⟨Nat.zero_le _, Nat.zero_le _⟩) (fun H locs hM hS => ?_)
  refine mr_eqB (tgt := 24) C0 dX4_witness_11 (by decide) (fun c2 => absurd c2 (by decide)) (fun _ => ?_)
  refine lv_iload_n hx hb dX4_witness_14 rfl (lv_at hl 1 rfl) ?_
  refine lv_iload_n hx hb dX4_witness_15 rfl (lv_at hl 2 rfl) ?_
  refine mr_eqN (x := a0) (y := b0) (tgt := 24) C0 dX4_witness_16 (by decide) (by omega) (by omega) (fun c3 => absurd c3 hab) (fun c3 => ?_)
  refine lv_iload_n hx hb dX4_witness_19 rfl (lv_at hl 3 rfl) ?_
  refine lv_iconst (v := (-1)) hx hb dX4_witness_20 (by decide) ?_
  refine lv_icmp_ge (tgt := 26) hx hb dX4_witness_21 (by decide) (fun c4 => ?_) (fun c4 => absurd (by decide) c4)
  refine lv_aload_n hx hb dX4_witness_26 rfl (lv_at hl 0 rfl) ?_
  refine lv_iload_n hx hb dX4_witness_27 rfl (lv_at hl 1 rfl) ?_
  refine mr_callV (As := [.int (nI a0)]) C0 (ctX4_layLeft (I := I) (J := J) (b := b) (g0 := a0) hMo (by omega)) (cwV 1 C0.1.2.2.2.2 gX4_witness_X4_layLeft rfl rfl rfl (by decide +kernel) (by rw [hR]; exact ⟨Nat.le_of_ble_eq_true rfl, Nat.le_of_ble_eq_true rfl⟩)) hM hMo.1.1 hMo.1.2 rfl rfl hM hS rfl rfl rfl hl.1 (Nat.le_of_ble_eq_true rfl) dX4_witness_28 (by rw [hR]; exact ⟨Nat.zero_le _, Nat.zero_le _⟩) (fun H locs hM hS => ?_)
  refine lv_iload_n hx hb dX4_witness_31 rfl (lv_at hl 3 rfl) ?_
  refine lv_iconst (v := (-1)) hx hb dX4_witness_32 (by decide) ?_
  refine lv_icmp_eq (tgt := 57) hx hb dX4_witness_33 (by decide) (fun c5 => ?_) (fun c5 => absurd rfl c5)
  refine lv_iload_n hx hb dX4_witness_57 rfl (lv_at hl 3 rfl) ?_
  refine lv_iconst (v := (-1)) hx hb dX4_witness_58 (by decide) ?_
  refine lv_icmp_ne (tgt := 71) hx hb dX4_witness_59 (by decide) (fun c6 => absurd rfl c6) (fun c6 => ?_)
  refine lv_aload_n hx hb dX4_witness_62 rfl (lv_at hl 0 rfl) ?_
  refine mr_getr (r := b + 6) (TT := TX4) (N := 10) C0 uX4_witness_X4 hM hMo.1.1 hMo.1.2 rfl 7 (by decide) rfl kX4_witness_f25 rfl dX4_witness_63 ?_
  refine lv_iload_n hx hb dX4_witness_66 rfl (lv_at hl 2 rfl) ?_
  refine mr_ialdN (v := (fX4_layLeft I b a0) (b + 6) b0) C0 hM hMo.2.2.2.2.2.2.1.1 hMo.2.2.2.2.2.2.1.2 (by decide) (by omega) rfl dX4_witness_67 ?_
  refine lv_goto (tgt := 73) hx hb dX4_witness_68 (by decide) ?_
  skip
  exact mr_iret (v := (fX4_layLeft I b a0) (b + 6) b0) C0 hr hlk hQ hS rfl hM (Nat.le_refl _) (Nat.le_refl _) dX4_witness_73
set_option maxHeartbeats 4000000 in
set_option maxRecDepth 100000 in
theorem ctX4_witness_n {l : Launch} {D : va_G} {T : Nat → ClassId} {L : List Nat} {A : Nat → Prop} {Sh : hm_S} {I : hm_I} {J : hm_J} {b : Nat} (hMo : IsM L Sh b) {a0 b0 : Nat} (ha0 : a0 < 8) (hb0 : b0 < 8) (hab : a0 ≠ b0) {k0 : Nat} (hk0 : k0 < 2 ^ 31) (hnn : (fX4_layLeft I b a0) (b + 6) b0 = (-9) ∨ (fX4_layLeft I b a0) (b + 6) b0 < nI k0) :
    Ct l yX4_witness wsX4_witness { frames := 2, cells := 0, slots := 0, locals := 45 } 0 0 D T A [.ref b, .int (nI a0), .int (nI b0), .int (nI k0)] (hm D T L A Sh I J) (some (.int (-9))) (hm D T L A Sh (fX4_layLeft I b a0) J) := by
  refine Ct.ofW (cc := cX4_witness) (maxL := 7) (ret := (some .int)) (by decide) rfl (Nat.le_of_ble_eq_true rfl) ?_
  intro p_ e_ s_ m_ args_ below_ meth_ c_ ls R Qq hR hQ C0 hr hlk hname hM hl
  have hx := C0.1.1
  have hb := C0.1.2.1
  have hS : va_S A s_.heap s_.heap [] := va_S.rf
  have hl : lv_has ls 7 [(0, .ref b), (1, .int (nI a0)), (2, .int (nI b0)), (3, .int (nI k0))] := hl
  refine lv_iload_n hx hb dX4_witness_0 rfl (lv_at hl 1 rfl) ?_
  refine mr_callS (As := [.int (nI a0)]) C0 (isStreamM_t (I := I) (J := J) (s0 := a0) (by omega)) (va_cwS 1 C0.1.2.2.2.2 gX4_witness_X4_isStream rfl rfl rfl (by decide +kernel) (by rw [hR]; exact ⟨Nat.le_of_ble_eq_true rfl, Nat.le_of_ble_eq_true rfl⟩)) hM hS rfl rfl rfl hl.1 (Nat.le_of_ble_eq_true rfl) dX4_witness_1 (by rw [hR]; exact ⟨Nat.zero_le _, Nat.zero_le _⟩) (fun H locs hM hS => ?_)
  refine mr_eqB (tgt := 24) C0 dX4_witness_4 (by decide) (fun c1 => absurd c1 (by decide)) (fun _ => ?_)
  refine lv_iload_n hx hb dX4_witness_7 rfl (lv_at hl 2 rfl) ?_
  refine mr_callS (As := [.int (nI b0)]) C0 (isStreamM_t (I := I) (J := J) (s0 := b0) (by omega)) (va_cwS 1 C0.1.2.2.2.2 gX4_witness_X4_isStream rfl rfl rfl (by decide +kernel) (by rw [hR]; exact ⟨Nat.le_of_ble_eq_true rfl, Nat.le_of_ble_eq_true rfl⟩)) hM hS rfl rfl rfl hl.1 (Nat.le_of_ble_eq_true rfl) dX4_witness_8 (by rw [hR]; exact ⟨Nat.zero_le _, Nat.zero_le _⟩) (fun H locs hM hS => ?_)
  refine mr_eqB (tgt := 24) C0 dX4_witness_11 (by decide) (fun c2 => absurd c2 (by decide)) (fun _ => ?_)
  refine lv_iload_n hx hb dX4_witness_14 rfl (lv_at hl 1 rfl) ?_
  refine lv_iload_n hx hb dX4_witness_15 rfl (lv_at hl 2 rfl) ?_
  refine mr_eqN (x := a0) (y := b0) (tgt := 24) C0 dX4_witness_16 (by decide) (by omega) (by omega) (fun c3 => absurd c3 hab) (fun c3 => ?_)
  refine lv_iload_n hx hb dX4_witness_19 rfl (lv_at hl 3 rfl) ?_
  refine lv_iconst (v := (-1)) hx hb dX4_witness_20 (by decide) ?_
  refine lv_icmp_ge (tgt := 26) hx hb dX4_witness_21 (by decide) (fun c4 => ?_) (fun c4 => absurd (m1_le hk0) c4)
  refine lv_aload_n hx hb dX4_witness_26 rfl (lv_at hl 0 rfl) ?_
  refine lv_iload_n hx hb dX4_witness_27 rfl (lv_at hl 1 rfl) ?_
  refine mr_callV (As := [.int (nI a0)]) C0 (ctX4_layLeft (I := I) (J := J) (b := b) (g0 := a0) hMo (by omega)) (cwV 1 C0.1.2.2.2.2 gX4_witness_X4_layLeft rfl rfl rfl (by decide +kernel) (by rw [hR]; exact ⟨Nat.le_of_ble_eq_true rfl, Nat.le_of_ble_eq_true rfl⟩)) hM hMo.1.1 hMo.1.2 rfl rfl hM hS rfl rfl rfl hl.1 (Nat.le_of_ble_eq_true rfl) dX4_witness_28 (by rw [hR]; exact ⟨Nat.zero_le _, Nat.zero_le _⟩) (fun H locs hM hS => ?_)
  refine lv_iload_n hx hb dX4_witness_31 rfl (lv_at hl 3 rfl) ?_
  refine lv_iconst (v := (-1)) hx hb dX4_witness_32 (by decide) ?_
  refine lv_icmp_eq (tgt := 57) hx hb dX4_witness_33 (by decide) (fun c5 => absurd c5 (nI_ne_m1 hk0)) (fun c5 => ?_)
  refine lv_aload_n hx hb dX4_witness_36 rfl (lv_at hl 0 rfl) ?_
  refine mr_getr (r := b + 6) (TT := TX4) (N := 10) C0 uX4_witness_X4 hM hMo.1.1 hMo.1.2 rfl 7 (by decide) rfl kX4_witness_f25 rfl dX4_witness_37 ?_
  refine lv_iload_n hx hb dX4_witness_40 rfl (lv_at hl 2 rfl) ?_
  refine mr_ialdN (v := (fX4_layLeft I b a0) (b + 6) b0) C0 hM hMo.2.2.2.2.2.2.1.1 hMo.2.2.2.2.2.2.1.2 (by decide) (by omega) rfl dX4_witness_41 ?_
  refine lv_bipush (v := (-9)) hx hb dX4_witness_42 (by decide) ?_
  refine lv_icmp_eq (tgt := 57) hx hb dX4_witness_44 (by decide) (fun c6 => ?_) (fun c6 => ?_)
  · skip
    refine lv_iload_n hx hb dX4_witness_57 rfl (lv_at hl 3 rfl) ?_
    refine lv_iconst (v := (-1)) hx hb dX4_witness_58 (by decide) ?_
    refine lv_icmp_ne (tgt := 71) hx hb dX4_witness_59 (by decide) (fun c7 => ?_) (fun c7 => absurd c7 (nI_ne_m1 hk0))
    refine lv_bipush (v := (-9)) hx hb dX4_witness_71 (by decide) ?_
    skip
    exact mr_iret (v := (-9)) C0 hr hlk hQ hS rfl hM (Nat.le_refl _) (Nat.le_refl _) dX4_witness_73
  · skip
    refine lv_iload_n hx hb dX4_witness_47 rfl (lv_at hl 3 rfl) ?_
    refine lv_aload_n hx hb dX4_witness_48 rfl (lv_at hl 0 rfl) ?_
    refine mr_getr (r := b + 6) (TT := TX4) (N := 10) C0 uX4_witness_X4 hM hMo.1.1 hMo.1.2 rfl 7 (by decide) rfl kX4_witness_f25 rfl dX4_witness_49 ?_
    refine lv_iload_n hx hb dX4_witness_52 rfl (lv_at hl 2 rfl) ?_
    refine mr_ialdN (v := (fX4_layLeft I b a0) (b + 6) b0) C0 hM hMo.2.2.2.2.2.2.1.1 hMo.2.2.2.2.2.2.1.2 (by decide) (by omega) rfl dX4_witness_53 ?_
    refine lv_icmp_le (tgt := 74) hx hb dX4_witness_54 (by decide) (fun c8 => (le_lt_no c8 (hnn.resolve_left c6)).elim) (fun c8 => ?_)
    refine lv_iload_n hx hb dX4_witness_57 rfl (lv_at hl 3 rfl) ?_
    refine lv_iconst (v := (-1)) hx hb dX4_witness_58 (by decide) ?_
    refine lv_icmp_ne (tgt := 71) hx hb dX4_witness_59 (by decide) (fun c9 => ?_) (fun c9 => absurd c9 (nI_ne_m1 hk0))
    refine lv_bipush (v := (-9)) hx hb dX4_witness_71 (by decide) ?_
    skip
    exact mr_iret (v := (-9)) C0 hr hlk hQ hS rfl hM (Nat.le_refl _) (Nat.le_refl _) dX4_witness_73
set_option maxHeartbeats 4000000 in
set_option maxRecDepth 100000 in
theorem ctX4_witness_w {l : Launch} {D : va_G} {T : Nat → ClassId} {L : List Nat} {A : Nat → Prop} {Sh : hm_S} {I : hm_I} {J : hm_J} {b : Nat} (hMo : IsM L Sh b) {a0 k0 : Nat} {wk : Nat → Nat} (ha0 : a0 < 8) (hb0 : wk 0 < 8) (hab : a0 ≠ wk 0) (hk0 : k0 < 2 ^ 31) (hn1 : ¬ (fX4_layLeft I b a0) (b + 6) (wk 0) = (-9)) (hn2 : nI k0 ≤ (fX4_layLeft I b a0) (b + 6) (wk 0)) (hw8 : ∀ i, i < k0 → wk (i + 1) < 8) (hwt : ∀ i, i < k0 → fX4_has ((fX4_layLeft I b a0) (b + 1) (176 + wk i)) (nI (wk (i + 1))) = true ∧ (fX4_layLeft I b a0) (b + 6) (wk (i + 1)) = (fX4_layLeft I b a0) (b + 6) (wk i) - nI 1) (hwf : ∀ i, i < k0 → ∀ j, j < wk (i + 1) → fX4_has ((fX4_layLeft I b a0) (b + 1) (176 + wk i)) (nI j) = true → ¬ (fX4_layLeft I b a0) (b + 6) j = (fX4_layLeft I b a0) (b + 6) (wk i) - nI 1) :
    Ct l yX4_witness wsX4_witness { frames := 2, cells := 0, slots := 0, locals := 45 } 0 0 D T A [.ref b, .int (nI a0), .int (nI (wk 0)), .int (nI k0)] (hm D T L A Sh I J) (some (.int (nI (wk k0)))) (hm D T L A Sh (fX4_layLeft I b a0) J) := by
  refine Ct.ofW (cc := cX4_witness) (maxL := 7) (ret := (some .int)) (by decide) rfl (Nat.le_of_ble_eq_true rfl) ?_
  intro p_ e_ s_ m_ args_ below_ meth_ c_ ls R Qq hR hQ C0 hr hlk hname hM hl
  have hx := C0.1.1
  have hb := C0.1.2.1
  have hS : va_S A s_.heap s_.heap [] := va_S.rf
  have hl : lv_has ls 7 [(0, .ref b), (1, .int (nI a0)), (2, .int (nI (wk 0))), (3, .int (nI k0))] := hl
  refine lv_iload_n hx hb dX4_witness_0 rfl (lv_at hl 1 rfl) ?_
  refine mr_callS (As := [.int (nI a0)]) C0 (isStreamM_t (I := I) (J := J) (s0 := a0) (by omega)) (va_cwS 1 C0.1.2.2.2.2 gX4_witness_X4_isStream rfl rfl rfl (by decide +kernel) (by rw [hR]; exact ⟨Nat.le_of_ble_eq_true rfl, Nat.le_of_ble_eq_true rfl⟩)) hM hS rfl rfl rfl hl.1 (Nat.le_of_ble_eq_true rfl) dX4_witness_1 (by rw [hR]; exact ⟨Nat.zero_le _, Nat.zero_le _⟩) (fun H locs hM hS => ?_)
  refine mr_eqB (tgt := 24) C0 dX4_witness_4 (by decide) (fun c1 => absurd c1 (by decide)) (fun _ => ?_)
  refine lv_iload_n hx hb dX4_witness_7 rfl (lv_at hl 2 rfl) ?_
  refine mr_callS (As := [.int (nI (wk 0))]) C0 (isStreamM_t (I := I) (J := J) (s0 := (wk 0)) (by omega)) (va_cwS 1 C0.1.2.2.2.2 gX4_witness_X4_isStream rfl rfl rfl (by decide +kernel) (by rw [hR]; exact ⟨Nat.le_of_ble_eq_true rfl, Nat.le_of_ble_eq_true rfl⟩)) hM hS rfl rfl rfl hl.1 (Nat.le_of_ble_eq_true rfl) dX4_witness_8 (by rw [hR]; exact ⟨Nat.zero_le _, Nat.zero_le _⟩) (fun H locs hM hS => ?_)
  refine mr_eqB (tgt := 24) C0 dX4_witness_11 (by decide) (fun c2 => absurd c2 (by decide)) (fun _ => ?_)
  refine lv_iload_n hx hb dX4_witness_14 rfl (lv_at hl 1 rfl) ?_
  refine lv_iload_n hx hb dX4_witness_15 rfl (lv_at hl 2 rfl) ?_
  refine mr_eqN (x := a0) (y := (wk 0)) (tgt := 24) C0 dX4_witness_16 (by decide) (by omega) (by omega) (fun c3 => absurd c3 hab) (fun c3 => ?_)
  refine lv_iload_n hx hb dX4_witness_19 rfl (lv_at hl 3 rfl) ?_
  refine lv_iconst (v := (-1)) hx hb dX4_witness_20 (by decide) ?_
  refine lv_icmp_ge (tgt := 26) hx hb dX4_witness_21 (by decide) (fun c4 => ?_) (fun c4 => absurd (m1_le hk0) c4)
  refine lv_aload_n hx hb dX4_witness_26 rfl (lv_at hl 0 rfl) ?_
  refine lv_iload_n hx hb dX4_witness_27 rfl (lv_at hl 1 rfl) ?_
  refine mr_callV (As := [.int (nI a0)]) C0 (ctX4_layLeft (I := I) (J := J) (b := b) (g0 := a0) hMo (by omega)) (cwV 1 C0.1.2.2.2.2 gX4_witness_X4_layLeft rfl rfl rfl (by decide +kernel) (by rw [hR]; exact ⟨Nat.le_of_ble_eq_true rfl, Nat.le_of_ble_eq_true rfl⟩)) hM hMo.1.1 hMo.1.2 rfl rfl hM hS rfl rfl rfl hl.1 (Nat.le_of_ble_eq_true rfl) dX4_witness_28 (by rw [hR]; exact ⟨Nat.zero_le _, Nat.zero_le _⟩) (fun H locs hM hS => ?_)
  refine lv_iload_n hx hb dX4_witness_31 rfl (lv_at hl 3 rfl) ?_
  refine lv_iconst (v := (-1)) hx hb dX4_witness_32 (by decide) ?_
  refine lv_icmp_eq (tgt := 57) hx hb dX4_witness_33 (by decide) (fun c5 => absurd c5 (nI_ne_m1 hk0)) (fun c5 => ?_)
  refine lv_aload_n hx hb dX4_witness_36 rfl (lv_at hl 0 rfl) ?_
  refine mr_getr (r := b + 6) (TT := TX4) (N := 10) C0 uX4_witness_X4 hM hMo.1.1 hMo.1.2 rfl 7 (by decide) rfl kX4_witness_f25 rfl dX4_witness_37 ?_
  refine lv_iload_n hx hb dX4_witness_40 rfl (lv_at hl 2 rfl) ?_
  refine mr_ialdN (v := (fX4_layLeft I b a0) (b + 6) (wk 0)) C0 hM hMo.2.2.2.2.2.2.1.1 hMo.2.2.2.2.2.2.1.2 (by decide) (by omega) rfl dX4_witness_41 ?_
  refine lv_bipush (v := (-9)) hx hb dX4_witness_42 (by decide) ?_
  refine lv_icmp_eq (tgt := 57) hx hb dX4_witness_44 (by decide) (fun c6 => absurd c6 hn1) (fun c6 => ?_)
  refine lv_iload_n hx hb dX4_witness_47 rfl (lv_at hl 3 rfl) ?_
  refine lv_aload_n hx hb dX4_witness_48 rfl (lv_at hl 0 rfl) ?_
  refine mr_getr (r := b + 6) (TT := TX4) (N := 10) C0 uX4_witness_X4 hM hMo.1.1 hMo.1.2 rfl 7 (by decide) rfl kX4_witness_f25 rfl dX4_witness_49 ?_
  refine lv_iload_n hx hb dX4_witness_52 rfl (lv_at hl 2 rfl) ?_
  refine mr_ialdN (v := (fX4_layLeft I b a0) (b + 6) (wk 0)) C0 hM hMo.2.2.2.2.2.2.1.1 hMo.2.2.2.2.2.2.1.2 (by decide) (by omega) rfl dX4_witness_53 ?_
  refine lv_icmp_le (tgt := 74) hx hb dX4_witness_54 (by decide) (fun c7 => ?_) (fun c7 => absurd hn2 c7)
  refine lv_iload_n hx hb dX4_witness_74 rfl (lv_at hl 2 rfl) ?_
  refine lv_istore (lv' := [(4, .int (nI (wk 0))), (0, .ref b), (1, .int (nI a0)), (2, .int (nI (wk 0))), (3, .int (nI k0))]) hx hb dX4_witness_75 hl (by decide) rfl (fun ls hl => ?_)
  refine lv_iconst (v := nI 0) hx hb dX4_witness_77 (by decide) ?_
  refine lv_istore (lv' := [(5, .int (nI 0)), (4, .int (nI (wk 0))), (0, .ref b), (1, .int (nI a0)), (2, .int (nI (wk 0))), (3, .int (nI k0))]) hx hb dX4_witness_78 hl (by decide) rfl (fun ls hl => ?_)
  refine lp_loop (σ := Unit) (fun i80 x80 => ∀ (H : Heap) (locs : List Loc) (ls : Array Slot), hm D T L A Sh (fX4_layLeft I b a0) J H → va_S A s_.heap H locs → lv_has ls 7 [(0, .ref b), (3, .int (nI k0)), (4, .int (nI (wk i80))), (5, .int (nI i80))] → W p_ l e_ R s_ m_ args_ below_ meth_ c_ H locs 0 0 Qq (F0 m_ 80 ls [])) k0 (fun i80 x80 => ()) () (fun (i80 : Nat) (x80 : Unit) => wk i80 < 8) hb0 (fun i x hi hv => hw8 i hi) (fun i80 x80 hi8 hv9 k10 H locs ls hM hS hl => ?_) (fun hv9 H locs ls hM hS hl => ?_) _ _ _ hM hS (lv_sub hl [2, 5, 1, 0] rfl)
  · have stp11 : ∀ yy_ : Unit, yy_ = (()) → ∀ (H : Heap) (locs : List Loc) (ls : Array Slot), hm D T L A Sh (fX4_layLeft I b a0) J H → va_S A s_.heap H locs → lv_has ls 7 [(0, .ref b), (3, .int (nI k0)), (4, .int (nI (wk (i80 + 1)))), (5, .int (nI (i80 + 1)))] → W p_ l e_ R s_ m_ args_ below_ meth_ c_ H locs 0 0 Qq (F0 m_ 80 ls []) := fun _ _ => k10
    have hv8 := hv9
    have hwt1 := hwt i80 hi8
    have hwf1 := hwf i80 hi8
    have hw81 := hw8 i80 hi8
    refine lv_iload hx hb dX4_witness_80 (lv_at hl 3 rfl) ?_
    refine lv_iload_n hx hb dX4_witness_82 rfl (lv_at hl 1 rfl) ?_
    refine mr_geN (x := i80) (y := k0) (tgt := 143) C0 dX4_witness_83 (by decide) (by omega) (by omega) (fun c12 => absurd c12 (by omega)) (fun c12 => ?_)
    refine lv_iconst (v := nI 0) hx hb dX4_witness_86 (by decide) ?_
    refine lv_istore (lv' := [(6, .int (nI 0)), (0, .ref b), (3, .int (nI k0)), (4, .int (nI (wk i80))), (5, .int (nI i80))]) hx hb dX4_witness_87 hl (by decide) rfl (fun ls hl => ?_)
    refine lp_loop (σ := Unit) (fun i89 x89 => ∀ (H : Heap) (locs : List Loc) (ls : Array Slot), hm D T L A Sh (fX4_layLeft I b a0) J H → va_S A s_.heap H locs → lv_has ls 7 [(0, .ref b), (3, .int (nI k0)), (4, .int (nI (wk i80))), (5, .int (nI i80)), (6, .int (nI i89))] → W p_ l e_ R s_ m_ args_ below_ meth_ c_ H locs 0 0 Qq (F0 m_ 89 ls [])) (wk (i80 + 1)) (fun i89 x89 => if fX4_has ((fX4_layLeft I b a0) (b + 1) (176 + (wk i80))) (nI i89) = true then () else ()) () (fun _ _ => True) trivial (fun _ _ _ _ => trivial) (fun i89 x89 hi13 hv14 k15 H locs ls hM hS hl => ?_) (fun hv14 H locs ls hM hS hl => ?_) _ _ _ hM hS (lv_sub hl [1, 2, 3, 4, 0] rfl)
    · have stp16 : ∀ yy_ : Unit, yy_ = (if fX4_has ((fX4_layLeft I b a0) (b + 1) (176 + (wk i80))) (nI i89) = true then () else ()) → ∀ (H : Heap) (locs : List Loc) (ls : Array Slot), hm D T L A Sh (fX4_layLeft I b a0) J H → va_S A s_.heap H locs → lv_has ls 7 [(0, .ref b), (3, .int (nI k0)), (4, .int (nI (wk i80))), (5, .int (nI i80)), (6, .int (nI (i89 + 1)))] → W p_ l e_ R s_ m_ args_ below_ meth_ c_ H locs 0 0 Qq (F0 m_ 89 ls []) := fun _ _ => k15
      refine lv_aload_n hx hb dX4_witness_89 rfl (lv_at hl 0 rfl) ?_
      refine mr_getr (r := b + 1) (TT := TX4) (N := 10) C0 uX4_witness_X4 hM hMo.1.1 hMo.1.2 rfl 0 (by decide) rfl kX4_witness_f7 rfl dX4_witness_90 ?_
      refine lv_sipush (v := nI 176) hx hb dX4_witness_93 (by decide) ?_
      refine lv_iload hx hb dX4_witness_96 (lv_at hl 2 rfl) ?_
      refine mr_iaddN (z := 176 + (wk i80)) C0 rfl dX4_witness_98 ?_
      refine mr_ialdN (v := (fX4_layLeft I b a0) (b + 1) (176 + (wk i80))) C0 hM hMo.2.1.1 hMo.2.1.2 (by decide) (by omega) rfl dX4_witness_99 ?_
      refine lv_iload hx hb dX4_witness_100 (lv_at hl 4 rfl) ?_
      refine mr_callS (As := [.int ((fX4_layLeft I b a0) (b + 1) (176 + (wk i80))), .int (nI i89)]) C0 (ctX4_has (I := (fX4_layLeft I b a0)) (J := J) (u := ((fX4_layLeft I b a0) (b + 1) (176 + (wk i80)))) (s0 := (nI i89)) ) (va_cwS 2 C0.1.2.2.2.2 gX4_witness_X4_has rfl rfl rfl (by decide +kernel) (by rw [hR]; exact ⟨Nat.le_of_ble_eq_true rfl, Nat.le_of_ble_eq_true rfl⟩)) hM hS rfl rfl rfl hl.1 (Nat.le_of_ble_eq_true rfl) dX4_witness_102 (by rw [hR]; exact ⟨Nat.zero_le _, Nat.zero_le _⟩) (fun H locs hM hS => ?_)
      refine mr_eqB (tgt := 127) C0 dX4_witness_105 (by decide) (fun c17 => ?_) (fun c17 => ?_)
      · skip
        refine lv_iinc (v := nI (i89 + 1)) (lv' := [(6, .int (nI (i89 + 1))), (0, .ref b), (3, .int (nI k0)), (4, .int (nI (wk i80))), (5, .int (nI i80))]) hx hb dX4_witness_127 hl (k := 4) rfl (nI_1 _) (by decide) rfl (fun ls hl => ?_)
        refine lv_goto (tgt := 89) hx hb dX4_witness_130 (by decide) ?_
        exact stp16 () (by rw [if_neg (Bool.eq_false_iff.mp c17)]) H locs ls hM hS (lv_sub hl [1, 2, 3, 4, 0] rfl)
      · skip
        refine lv_aload_n hx hb dX4_witness_108 rfl (lv_at hl 0 rfl) ?_
        refine mr_getr (r := b + 6) (TT := TX4) (N := 10) C0 uX4_witness_X4 hM hMo.1.1 hMo.1.2 rfl 7 (by decide) rfl kX4_witness_f25 rfl dX4_witness_109 ?_
        refine lv_iload hx hb dX4_witness_112 (lv_at hl 4 rfl) ?_
        refine mr_ialdN (v := (fX4_layLeft I b a0) (b + 6) i89) C0 hM hMo.2.2.2.2.2.2.1.1 hMo.2.2.2.2.2.2.1.2 (by decide) (by omega) rfl dX4_witness_114 ?_
        refine lv_aload_n hx hb dX4_witness_115 rfl (lv_at hl 0 rfl) ?_
        refine mr_getr (r := b + 6) (TT := TX4) (N := 10) C0 uX4_witness_X4 hM hMo.1.1 hMo.1.2 rfl 7 (by decide) rfl kX4_witness_f25 rfl dX4_witness_116 ?_
        refine lv_iload hx hb dX4_witness_119 (lv_at hl 2 rfl) ?_
        refine mr_ialdN (v := (fX4_layLeft I b a0) (b + 6) (wk i80)) C0 hM hMo.2.2.2.2.2.2.1.1 hMo.2.2.2.2.2.2.1.2 (by decide) (by omega) rfl dX4_witness_121 ?_
        refine lv_iconst (v := nI 1) hx hb dX4_witness_122 (by decide) ?_
        refine lv_isub hx hb dX4_witness_123 ?_
        refine lv_icmp_eq (tgt := 133) hx hb dX4_witness_124 (by decide) (fun c18 => absurd c18 (hwf1 _ (by omega) c17)) (fun c18 => ?_)
        refine lv_iinc (v := nI (i89 + 1)) (lv' := [(6, .int (nI (i89 + 1))), (0, .ref b), (3, .int (nI k0)), (4, .int (nI (wk i80))), (5, .int (nI i80))]) hx hb dX4_witness_127 hl (k := 4) rfl (nI_1 _) (by decide) rfl (fun ls hl => ?_)
        refine lv_goto (tgt := 89) hx hb dX4_witness_130 (by decide) ?_
        exact stp16 () (by rw [if_pos c17]) H locs ls hM hS (lv_sub hl [1, 2, 3, 4, 0] rfl)
    · skip
      refine lv_aload_n hx hb dX4_witness_89 rfl (lv_at hl 0 rfl) ?_
      refine mr_getr (r := b + 1) (TT := TX4) (N := 10) C0 uX4_witness_X4 hM hMo.1.1 hMo.1.2 rfl 0 (by decide) rfl kX4_witness_f7 rfl dX4_witness_90 ?_
      refine lv_sipush (v := nI 176) hx hb dX4_witness_93 (by decide) ?_
      refine lv_iload hx hb dX4_witness_96 (lv_at hl 2 rfl) ?_
      refine mr_iaddN (z := 176 + (wk i80)) C0 rfl dX4_witness_98 ?_
      refine mr_ialdN (v := (fX4_layLeft I b a0) (b + 1) (176 + (wk i80))) C0 hM hMo.2.1.1 hMo.2.1.2 (by decide) (by omega) rfl dX4_witness_99 ?_
      refine lv_iload hx hb dX4_witness_100 (lv_at hl 4 rfl) ?_
      refine mr_callS (As := [.int ((fX4_layLeft I b a0) (b + 1) (176 + (wk i80))), .int (nI (wk (i80 + 1)))]) C0 (ctX4_has (I := (fX4_layLeft I b a0)) (J := J) (u := ((fX4_layLeft I b a0) (b + 1) (176 + (wk i80)))) (s0 := (nI (wk (i80 + 1)))) ) (va_cwS 2 C0.1.2.2.2.2 gX4_witness_X4_has rfl rfl rfl (by decide +kernel) (by rw [hR]; exact ⟨Nat.le_of_ble_eq_true rfl, Nat.le_of_ble_eq_true rfl⟩)) hM hS rfl rfl rfl hl.1 (Nat.le_of_ble_eq_true rfl) dX4_witness_102 (by rw [hR]; exact ⟨Nat.zero_le _, Nat.zero_le _⟩) (fun H locs hM hS => ?_)
      refine mr_eqB (tgt := 127) C0 dX4_witness_105 (by decide) (fun c19 => absurd hwt1.1 (by rw [c19]; decide)) (fun c19 => ?_)
      refine lv_aload_n hx hb dX4_witness_108 rfl (lv_at hl 0 rfl) ?_
      refine mr_getr (r := b + 6) (TT := TX4) (N := 10) C0 uX4_witness_X4 hM hMo.1.1 hMo.1.2 rfl 7 (by decide) rfl kX4_witness_f25 rfl dX4_witness_109 ?_
      refine lv_iload hx hb dX4_witness_112 (lv_at hl 4 rfl) ?_
      refine mr_ialdN (v := (fX4_layLeft I b a0) (b + 6) (wk (i80 + 1))) C0 hM hMo.2.2.2.2.2.2.1.1 hMo.2.2.2.2.2.2.1.2 (by decide) (by omega) rfl dX4_witness_114 ?_
      refine lv_aload_n hx hb dX4_witness_115 rfl (lv_at hl 0 rfl) ?_
      refine mr_getr (r := b + 6) (TT := TX4) (N := 10) C0 uX4_witness_X4 hM hMo.1.1 hMo.1.2 rfl 7 (by decide) rfl kX4_witness_f25 rfl dX4_witness_116 ?_
      refine lv_iload hx hb dX4_witness_119 (lv_at hl 2 rfl) ?_
      refine mr_ialdN (v := (fX4_layLeft I b a0) (b + 6) (wk i80)) C0 hM hMo.2.2.2.2.2.2.1.1 hMo.2.2.2.2.2.2.1.2 (by decide) (by omega) rfl dX4_witness_121 ?_
      refine lv_iconst (v := nI 1) hx hb dX4_witness_122 (by decide) ?_
      refine lv_isub hx hb dX4_witness_123 ?_
      refine lv_icmp_eq (tgt := 133) hx hb dX4_witness_124 (by decide) (fun c20 => ?_) (fun c20 => absurd hwt1.2 c20)
      refine lv_iload hx hb dX4_witness_133 (lv_at hl 4 rfl) ?_
      refine lv_istore (lv' := [(4, .int (nI (wk (i80 + 1)))), (0, .ref b), (3, .int (nI k0)), (5, .int (nI i80)), (6, .int (nI (wk (i80 + 1))))]) hx hb dX4_witness_135 hl (by decide) rfl (fun ls hl => ?_)
      refine lv_iinc (v := nI (i80 + 1)) (lv' := [(5, .int (nI (i80 + 1))), (4, .int (nI (wk (i80 + 1)))), (0, .ref b), (3, .int (nI k0)), (6, .int (nI (wk (i80 + 1))))]) hx hb dX4_witness_137 hl (k := 3) rfl (nI_1 _) (by decide) rfl (fun ls hl => ?_)
      refine lv_goto (tgt := 80) hx hb dX4_witness_140 (by decide) ?_
      exact stp11 () rfl H locs ls hM hS (lv_sub hl [2, 3, 1, 0] rfl)
  · skip
    refine lv_iload hx hb dX4_witness_80 (lv_at hl 3 rfl) ?_
    refine lv_iload_n hx hb dX4_witness_82 rfl (lv_at hl 1 rfl) ?_
    refine mr_geN (x := k0) (y := k0) (tgt := 143) C0 dX4_witness_83 (by decide) (by omega) (by omega) (fun c21 => ?_) (fun c21 => absurd c21 (by omega))
    refine lv_iload hx hb dX4_witness_143 (lv_at hl 2 rfl) ?_
    skip
    exact mr_iret (v := nI (wk k0)) C0 hr hlk hQ hS rfl hM (Nat.le_refl _) (Nat.le_refl _) dX4_witness_145
def fX4_isImage (i0 : Int32) : Bool :=
  fX4_isIn i0 (nI 0) (nI 1)
set_option maxHeartbeats 4000000 in
set_option maxRecDepth 100000 in
theorem ctX4_isImage {l : Launch} {D : va_G} {T : Nat → ClassId} {L : List Nat} {A : Nat → Prop} {Sh : hm_S} {I : hm_I} {J : hm_J} {i0 : Int32} :
    Ct l yX4_isImage wsX4_isImage { frames := 1, cells := 0, slots := 0, locals := 22 } 0 0 D T A [.int i0] (hm D T L A Sh I J) (some (.int (bI (fX4_isImage i0)))) (hm D T L A Sh I J) := by
  refine Ct.ofW (cc := cX4_isImage) (maxL := 1) (ret := (some .boolean)) (by decide) rfl (Nat.le_of_ble_eq_true rfl) ?_
  intro p_ e_ s_ m_ args_ below_ meth_ c_ ls R Qq hR hQ C0 hr hlk hname hM hl
  have hx := C0.1.1
  have hb := C0.1.2.1
  have hS : va_S A s_.heap s_.heap [] := va_S.rf
  have hl : lv_has ls 1 [(0, .int i0)] := hl
  refine lv_iload_n hx hb dX4_isImage_0 rfl (lv_at hl 0 rfl) ?_
  refine lv_iconst (v := nI 0) hx hb dX4_isImage_1 (by decide) ?_
  refine lv_iconst (v := nI 1) hx hb dX4_isImage_2 (by decide) ?_
  refine mr_callS (As := [.int i0, .int (nI 0), .int (nI 1)]) C0 (ctX4_isIn (I := I) (J := J) (v := i0) (lo := (nI 0)) (up := (nI 1)) ) (va_cwS 3 C0.1.2.2.2.2 gX4_isImage_X4_isIn rfl rfl rfl (by decide +kernel) (by rw [hR]; exact ⟨Nat.le_of_ble_eq_true rfl, Nat.le_of_ble_eq_true rfl⟩)) hM hS rfl rfl rfl hl.1 (Nat.le_of_ble_eq_true rfl) dX4_isImage_3 (by rw [hR]; exact ⟨Nat.zero_le _, Nat.zero_le _⟩) (fun H locs hM hS => ?_)
  have eF : fX4_isIn i0 (nI 0) (nI 1) = fX4_isImage i0 := rfl
  exact mr_zret (b := fX4_isIn i0 (nI 0) (nI 1)) C0 hr hlk hQ hS (by rw [← eF]) hM (Nat.le_refl _) (Nat.le_refl _) dX4_isImage_6
set_option maxHeartbeats 4000000 in
set_option maxRecDepth 100000 in
theorem ctX4_keep_b {l : Launch} {D : va_G} {T : Nat → ClassId} {L : List Nat} {A : Nat → Prop} {Sh : hm_S} {I : hm_I} {J : hm_J} {b : Nat} (hMo : IsM L Sh b) {i0 : Int32} (hb0 : fX4_isImage i0 = false) :
    Ct l yX4_keep wsX4_keep { frames := 2, cells := 0, slots := 0, locals := 42 } 0 0 D T A [.ref b, .int i0] (hm D T L A Sh I J) (some (.int (-1))) (hm D T L A Sh I J) := by
  refine Ct.ofW (cc := cX4_keep) (maxL := 3) (ret := (some .int)) (by decide) rfl (Nat.le_of_ble_eq_true rfl) ?_
  intro p_ e_ s_ m_ args_ below_ meth_ c_ ls R Qq hR hQ C0 hr hlk hname hM hl
  have hx := C0.1.1
  have hb := C0.1.2.1
  have hS : va_S A s_.heap s_.heap [] := va_S.rf
  have hl : lv_has ls 3 [(0, .ref b), (1, .int i0)] := hl
  refine lv_iload_n hx hb dX4_keep_0 rfl (lv_at hl 1 rfl) ?_
  refine mr_callS (As := [.int i0]) C0 (ctX4_isImage (I := I) (J := J) (i0 := i0) ) (va_cwS 1 C0.1.2.2.2.2 gX4_keep_X4_isImage rfl rfl rfl (by decide +kernel) (by rw [hR]; exact ⟨Nat.le_of_ble_eq_true rfl, Nat.le_of_ble_eq_true rfl⟩)) hM hS rfl rfl rfl hl.1 (Nat.le_of_ble_eq_true rfl) dX4_keep_1 (by rw [hR]; exact ⟨Nat.zero_le _, Nat.zero_le _⟩) (fun H locs hM hS => ?_)
  refine mr_neB (tgt := 9) C0 dX4_keep_4 (by decide) (fun c1 => absurd c1 (by rw [hb0]; decide)) (fun c1 => ?_)
  refine lv_iconst (v := (-1)) hx hb dX4_keep_7 (by decide) ?_
  skip
  exact mr_iret (v := (-1)) C0 hr hlk hQ hS rfl hM (Nat.le_refl _) (Nat.le_refl _) dX4_keep_8
set_option maxHeartbeats 4000000 in
set_option maxRecDepth 100000 in
theorem ctX4_back_b {l : Launch} {D : va_G} {T : Nat → ClassId} {L : List Nat} {A : Nat → Prop} {Sh : hm_S} {I : hm_I} {J : hm_J} {b : Nat} (hMo : IsM L Sh b) {i0 : Int32} (hb0 : fX4_isImage i0 = false) :
    Ct l yX4_back wsX4_back { frames := 2, cells := 0, slots := 0, locals := 42 } 0 0 D T A [.ref b, .int i0] (hm D T L A Sh I J) (some (.int (-1))) (hm D T L A Sh I J) := by
  refine Ct.ofW (cc := cX4_back) (maxL := 3) (ret := (some .int)) (by decide) rfl (Nat.le_of_ble_eq_true rfl) ?_
  intro p_ e_ s_ m_ args_ below_ meth_ c_ ls R Qq hR hQ C0 hr hlk hname hM hl
  have hx := C0.1.1
  have hb := C0.1.2.1
  have hS : va_S A s_.heap s_.heap [] := va_S.rf
  have hl : lv_has ls 3 [(0, .ref b), (1, .int i0)] := hl
  refine lv_iload_n hx hb dX4_back_0 rfl (lv_at hl 1 rfl) ?_
  refine mr_callS (As := [.int i0]) C0 (ctX4_isImage (I := I) (J := J) (i0 := i0) ) (va_cwS 1 C0.1.2.2.2.2 gX4_back_X4_isImage rfl rfl rfl (by decide +kernel) (by rw [hR]; exact ⟨Nat.le_of_ble_eq_true rfl, Nat.le_of_ble_eq_true rfl⟩)) hM hS rfl rfl rfl hl.1 (Nat.le_of_ble_eq_true rfl) dX4_back_1 (by rw [hR]; exact ⟨Nat.zero_le _, Nat.zero_le _⟩) (fun H locs hM hS => ?_)
  refine mr_neB (tgt := 9) C0 dX4_back_4 (by decide) (fun c1 => absurd c1 (by rw [hb0]; decide)) (fun c1 => ?_)
  refine lv_iconst (v := (-1)) hx hb dX4_back_7 (by decide) ?_
  skip
  exact mr_iret (v := (-1)) C0 hr hlk hQ hS rfl hM (Nat.le_refl _) (Nat.le_refl _) dX4_back_8
def fX4_keep_t (I : hm_I) (b i0 : Nat) : Int32 × hm_I :=
  (fX4_waiting (hm_put (lp 428 (fun i11 x11 => hm_put x11 (b + 3) (428 * i0 + i11) (x11 (b + 1) i11)) I) b 4 (((lp 428 (fun i11 x11 => hm_put x11 (b + 3) (428 * i0 + i11) (x11 (b + 1) i11)) I) b 4) ||| ((nI 1) <<< ((nI i0) &&& 31)))) b, hm_put (lp 428 (fun i11 x11 => hm_put x11 (b + 3) (428 * i0 + i11) (x11 (b + 1) i11)) I) b 4 (((lp 428 (fun i11 x11 => hm_put x11 (b + 3) (428 * i0 + i11) (x11 (b + 1) i11)) I) b 4) ||| ((nI 1) <<< ((nI i0) &&& 31))))
set_option maxHeartbeats 4000000 in
set_option maxRecDepth 100000 in
theorem ctX4_keep_t {l : Launch} {D : va_G} {T : Nat → ClassId} {L : List Nat} {A : Nat → Prop} {Sh : hm_S} {I : hm_I} {J : hm_J} {b : Nat} (hMo : IsM L Sh b) {i0 : Nat} (hi0 : i0 < 2) (hw0 : fX4_isImage (nI i0) = true) :
    Ct l yX4_keep wsX4_keep { frames := 2, cells := 0, slots := 0, locals := 42 } 0 0 D T A [.ref b, .int (nI i0)] (hm D T L A Sh I J) (some (.int ((fX4_keep_t I b i0).1))) (hm D T L A Sh ((fX4_keep_t I b i0).2) J) := by
  refine Ct.ofW (cc := cX4_keep) (maxL := 3) (ret := (some .int)) (by decide) rfl (Nat.le_of_ble_eq_true rfl) ?_
  intro p_ e_ s_ m_ args_ below_ meth_ c_ ls R Qq hR hQ C0 hr hlk hname hM hl
  have hx := C0.1.1
  have hb := C0.1.2.1
  have hS : va_S A s_.heap s_.heap [] := va_S.rf
  have hl : lv_has ls 3 [(0, .ref b), (1, .int (nI i0))] := hl
  refine lv_iload_n hx hb dX4_keep_0 rfl (lv_at hl 1 rfl) ?_
  refine mr_callS (As := [.int (nI i0)]) C0 (ctX4_isImage (I := I) (J := J) (i0 := (nI i0)) ) (va_cwS 1 C0.1.2.2.2.2 gX4_keep_X4_isImage rfl rfl rfl (by decide +kernel) (by rw [hR]; exact ⟨Nat.le_of_ble_eq_true rfl, Nat.le_of_ble_eq_true rfl⟩)) hM hS rfl rfl rfl hl.1 (Nat.le_of_ble_eq_true rfl) dX4_keep_1 (by rw [hR]; exact ⟨Nat.zero_le _, Nat.zero_le _⟩) (fun H locs hM hS => ?_)
  refine mr_neB (tgt := 9) C0 dX4_keep_4 (by decide) (fun c1 => ?_) (fun c1 => absurd c1 (by rw [hw0]; decide))
  refine lv_iconst (v := nI 0) hx hb dX4_keep_9 (by decide) ?_
  refine lv_istore_n (lv' := [(2, .int (nI 0)), (0, .ref b), (1, .int (nI i0))]) hx hb dX4_keep_10 rfl hl (by decide) rfl (fun ls hl => ?_)
  refine lp_loop (σ := hm_I) (fun i11 x11 => ∀ (H : Heap) (locs : List Loc) (ls : Array Slot), hm D T L A Sh x11 J H → va_S A s_.heap H locs → lv_has ls 3 [(0, .ref b), (1, .int (nI i0)), (2, .int (nI i11))] → W p_ l e_ R s_ m_ args_ below_ meth_ c_ H locs 0 0 Qq (F0 m_ 11 ls [])) 428 (fun i11 x11 => hm_put x11 (b + 3) (428 * i0 + i11) (x11 (b + 1) i11)) I (fun _ _ => True) trivial (fun _ _ _ _ => trivial) (fun i11 x11 hi2 hv3 k4 H locs ls hM hS hl => ?_) (fun hv3 H locs ls hM hS hl => ?_) _ _ _ hM hS (lv_sub hl [1, 2, 0] rfl)
  · have stp5 : ∀ yy_ : hm_I, yy_ = (hm_put x11 (b + 3) (428 * i0 + i11) (x11 (b + 1) i11)) → ∀ (H : Heap) (locs : List Loc) (ls : Array Slot), hm D T L A Sh yy_ J H → va_S A s_.heap H locs → lv_has ls 3 [(0, .ref b), (1, .int (nI i0)), (2, .int (nI (i11 + 1)))] → W p_ l e_ R s_ m_ args_ below_ meth_ c_ H locs 0 0 Qq (F0 m_ 11 ls []) := fun yy_ ey => by rw [ey]; exact k4
    refine lv_iload_n hx hb dX4_keep_11 rfl (lv_at hl 2 rfl) ?_
    refine lv_sipush (v := nI 428) hx hb dX4_keep_12 (by decide) ?_
    refine mr_geN (x := i11) (y := 428) (tgt := 42) C0 dX4_keep_15 (by decide) (by omega) (by omega) (fun c6 => absurd c6 (by omega)) (fun c6 => ?_)
    refine lv_aload_n hx hb dX4_keep_18 rfl (lv_at hl 0 rfl) ?_
    refine mr_getr (r := b + 3) (TT := TX4) (N := 10) C0 uX4_keep_X4 hM hMo.1.1 hMo.1.2 rfl 3 (by decide) rfl kX4_keep_f16 rfl dX4_keep_19 ?_
    refine lv_sipush (v := nI 428) hx hb dX4_keep_22 (by decide) ?_
    refine lv_iload_n hx hb dX4_keep_25 rfl (lv_at hl 1 rfl) ?_
    refine mr_imulN (z := 428 * i0) C0 rfl dX4_keep_26 ?_
    refine lv_iload_n hx hb dX4_keep_27 rfl (lv_at hl 2 rfl) ?_
    refine mr_iaddN (z := 428 * i0 + i11) C0 rfl dX4_keep_28 ?_
    refine lv_aload_n hx hb dX4_keep_29 rfl (lv_at hl 0 rfl) ?_
    refine mr_getr (r := b + 1) (TT := TX4) (N := 10) C0 uX4_keep_X4 hM hMo.1.1 hMo.1.2 rfl 0 (by decide) rfl kX4_keep_f7 rfl dX4_keep_30 ?_
    refine lv_iload_n hx hb dX4_keep_33 rfl (lv_at hl 2 rfl) ?_
    refine mr_ialdN (v := x11 (b + 1) i11) C0 hM hMo.2.1.1 hMo.2.1.2 (by decide) (by omega) rfl dX4_keep_34 ?_
    refine mr_iastN C0 hM hS hMo.2.2.2.1.1 hMo.2.2.2.1.2 (by decide) (by omega) dX4_keep_35 (fun H locs hM hS => ?_)
    refine lv_iinc (v := nI (i11 + 1)) (lv' := [(2, .int (nI (i11 + 1))), (0, .ref b), (1, .int (nI i0))]) hx hb dX4_keep_36 hl (k := 2) rfl (nI_1 _) (by decide) rfl (fun ls hl => ?_)
    refine lv_goto (tgt := 11) hx hb dX4_keep_39 (by decide) ?_
    exact stp5 (hm_put x11 (b + 3) (428 * i0 + i11) (x11 (b + 1) i11)) rfl H locs ls hM hS (lv_sub hl [1, 2, 0] rfl)
  · skip
    refine lv_iload_n hx hb dX4_keep_11 rfl (lv_at hl 2 rfl) ?_
    refine lv_sipush (v := nI 428) hx hb dX4_keep_12 (by decide) ?_
    refine mr_geN (x := 428) (y := 428) (tgt := 42) C0 dX4_keep_15 (by decide) (by decide) (by decide) (fun _ => ?_) (fun c7 => absurd c7 (by decide))
    refine lv_aload_n hx hb dX4_keep_42 rfl (lv_at hl 0 rfl) ?_
    refine lv_dup hx hb dX4_keep_43 rfl ?_
    refine mr_geti (v := (lp 428 (fun i11 x11 => hm_put x11 (b + 3) (428 * i0 + i11) (x11 (b + 1) i11)) I) b 4) (TT := TX4) (N := 10) C0 uX4_keep_X4 hM hMo.1.1 hMo.1.2 rfl 4 (by decide) rfl rfl kX4_keep_f139 rfl dX4_keep_44 ?_
    refine lv_iconst (v := nI 1) hx hb dX4_keep_47 (by decide) ?_
    refine lv_iload_n hx hb dX4_keep_48 rfl (lv_at hl 1 rfl) ?_
    refine lv_ishl hx hb dX4_keep_49 ?_
    refine lv_ior hx hb dX4_keep_50 ?_
    refine mr_puti (TT := TX4) (N := 10) C0 uX4_keep_X4 tyX4 tyX4_ok nmX4 hM hS hMo.1.1 hMo.1.2 rfl 4 (by decide) rfl kX4_keep_f139 rfl rfl (by decide +kernel) dX4_keep_51 (fun H locs hM hS => ?_)
    refine lv_aload_n hx hb dX4_keep_54 rfl (lv_at hl 0 rfl) ?_
    refine mr_callV (As := []) C0 (ctX4_waiting (I := (hm_put (lp 428 (fun i11 x11 => hm_put x11 (b + 3) (428 * i0 + i11) (x11 (b + 1) i11)) I) b 4 (((lp 428 (fun i11 x11 => hm_put x11 (b + 3) (428 * i0 + i11) (x11 (b + 1) i11)) I) b 4) ||| ((nI 1) <<< ((nI i0) &&& 31))))) (J := J) (b := b) hMo) (cwV 0 C0.1.2.2.2.2 gX4_keep_X4_waiting rfl rfl rfl (by decide +kernel) (by rw [hR]; exact ⟨Nat.le_of_ble_eq_true rfl, Nat.le_of_ble_eq_true rfl⟩)) hM hMo.1.1 hMo.1.2 rfl rfl hM hS rfl rfl rfl hl.1 (Nat.le_of_ble_eq_true rfl) dX4_keep_55 (by rw [hR]; exact ⟨Nat.zero_le _, Nat.zero_le _⟩) (fun H locs hM hS => ?_)
    have eF : (fX4_waiting (hm_put (lp 428 (fun i11 x11 => hm_put x11 (b + 3) (428 * i0 + i11) (x11 (b + 1) i11)) I) b 4 (((lp 428 (fun i11 x11 => hm_put x11 (b + 3) (428 * i0 + i11) (x11 (b + 1) i11)) I) b 4) ||| ((nI 1) <<< ((nI i0) &&& 31)))) b, hm_put (lp 428 (fun i11 x11 => hm_put x11 (b + 3) (428 * i0 + i11) (x11 (b + 1) i11)) I) b 4 (((lp 428 (fun i11 x11 => hm_put x11 (b + 3) (428 * i0 + i11) (x11 (b + 1) i11)) I) b 4) ||| ((nI 1) <<< ((nI i0) &&& 31)))) = fX4_keep_t I b i0 := rfl
    exact mr_iret (v := fX4_waiting (hm_put (lp 428 (fun i11 x11 => hm_put x11 (b + 3) (428 * i0 + i11) (x11 (b + 1) i11)) I) b 4 (((lp 428 (fun i11 x11 => hm_put x11 (b + 3) (428 * i0 + i11) (x11 (b + 1) i11)) I) b 4) ||| ((nI 1) <<< ((nI i0) &&& 31)))) b) C0 hr hlk hQ hS (by rw [← eF]) (by rw [← eF]; exact hM) (Nat.le_refl _) (Nat.le_refl _) dX4_keep_58
def fX4_back_t (I : hm_I) (b pm i0 : Nat) : Int32 × hm_I :=
  if fX4_has (I b 4) (nI i0) = true then (fX4_waiting (lp 428 (fun i29 x29 => hm_put x29 (b + 1) i29 (x29 (b + 3) (428 * i0 + i29))) (fX4_remember I b pm)) b, (lp 428 (fun i29 x29 => hm_put x29 (b + 1) i29 (x29 (b + 3) (428 * i0 + i29))) (fX4_remember I b pm))) else ((-2), I)
set_option maxHeartbeats 4000000 in
set_option maxRecDepth 100000 in
theorem ctX4_back_t {l : Launch} {D : va_G} {T : Nat → ClassId} {L : List Nat} {A : Nat → Prop} {Sh : hm_S} {I : hm_I} {J : hm_J} {b : Nat} (hMo : IsM L Sh b) {pm : Nat} (hpm : I b 2 = nI pm) (hp8 : pm ≤ 8) {i0 : Nat} (hi0 : i0 < 2) (hw0 : fX4_isImage (nI i0) = true) :
    Ct l yX4_back wsX4_back { frames := 2, cells := 0, slots := 0, locals := 42 } 0 0 D T A [.ref b, .int (nI i0)] (hm D T L A Sh I J) (some (.int ((fX4_back_t I b pm i0).1))) (hm D T L A Sh ((fX4_back_t I b pm i0).2) J) := by
  refine Ct.ofW (cc := cX4_back) (maxL := 3) (ret := (some .int)) (by decide) rfl (Nat.le_of_ble_eq_true rfl) ?_
  intro p_ e_ s_ m_ args_ below_ meth_ c_ ls R Qq hR hQ C0 hr hlk hname hM hl
  have hx := C0.1.1
  have hb := C0.1.2.1
  have hS : va_S A s_.heap s_.heap [] := va_S.rf
  have hl : lv_has ls 3 [(0, .ref b), (1, .int (nI i0))] := hl
  refine lv_iload_n hx hb dX4_back_0 rfl (lv_at hl 1 rfl) ?_
  refine mr_callS (As := [.int (nI i0)]) C0 (ctX4_isImage (I := I) (J := J) (i0 := (nI i0)) ) (va_cwS 1 C0.1.2.2.2.2 gX4_back_X4_isImage rfl rfl rfl (by decide +kernel) (by rw [hR]; exact ⟨Nat.le_of_ble_eq_true rfl, Nat.le_of_ble_eq_true rfl⟩)) hM hS rfl rfl rfl hl.1 (Nat.le_of_ble_eq_true rfl) dX4_back_1 (by rw [hR]; exact ⟨Nat.zero_le _, Nat.zero_le _⟩) (fun H locs hM hS => ?_)
  refine mr_neB (tgt := 9) C0 dX4_back_4 (by decide) (fun c1 => ?_) (fun c1 => absurd c1 (by rw [hw0]; decide))
  refine lv_aload_n hx hb dX4_back_9 rfl (lv_at hl 0 rfl) ?_
  refine mr_geti (v := I b 4) (TT := TX4) (N := 10) C0 uX4_back_X4 hM hMo.1.1 hMo.1.2 rfl 4 (by decide) rfl rfl kX4_back_f139 rfl dX4_back_10 ?_
  refine lv_iload_n hx hb dX4_back_13 rfl (lv_at hl 1 rfl) ?_
  refine mr_callS (As := [.int (I b 4), .int (nI i0)]) C0 (ctX4_has (I := I) (J := J) (u := (I b 4)) (s0 := (nI i0)) ) (va_cwS 2 C0.1.2.2.2.2 gX4_back_X4_has rfl rfl rfl (by decide +kernel) (by rw [hR]; exact ⟨Nat.le_of_ble_eq_true rfl, Nat.le_of_ble_eq_true rfl⟩)) hM hS rfl rfl rfl hl.1 (Nat.le_of_ble_eq_true rfl) dX4_back_14 (by rw [hR]; exact ⟨Nat.zero_le _, Nat.zero_le _⟩) (fun H locs hM hS => ?_)
  refine mr_neB (tgt := 23) C0 dX4_back_17 (by decide) (fun c2 => ?_) (fun c2 => ?_)
  · skip
    refine lv_aload_n hx hb dX4_back_23 rfl (lv_at hl 0 rfl) ?_
    refine mr_callV (As := []) C0 (ctX4_remember (I := I) (J := J) (b := b) hMo hpm (by omega)) (cwV 0 C0.1.2.2.2.2 gX4_back_X4_remember rfl rfl rfl (by decide +kernel) (by rw [hR]; exact ⟨Nat.le_of_ble_eq_true rfl, Nat.le_of_ble_eq_true rfl⟩)) hM hMo.1.1 hMo.1.2 rfl rfl hM hS rfl rfl rfl hl.1 (Nat.le_of_ble_eq_true rfl) dX4_back_24 (by rw [hR]; exact ⟨Nat.zero_le _, Nat.zero_le _⟩) (fun H locs hM hS => ?_)
    refine lv_iconst (v := nI 0) hx hb dX4_back_27 (by decide) ?_
    refine lv_istore_n (lv' := [(2, .int (nI 0)), (0, .ref b), (1, .int (nI i0))]) hx hb dX4_back_28 rfl hl (by decide) rfl (fun ls hl => ?_)
    refine lp_loop (σ := hm_I) (fun i29 x29 => ∀ (H : Heap) (locs : List Loc) (ls : Array Slot), hm D T L A Sh x29 J H → va_S A s_.heap H locs → lv_has ls 3 [(0, .ref b), (1, .int (nI i0)), (2, .int (nI i29))] → W p_ l e_ R s_ m_ args_ below_ meth_ c_ H locs 0 0 Qq (F0 m_ 29 ls [])) 428 (fun i29 x29 => hm_put x29 (b + 1) i29 (x29 (b + 3) (428 * i0 + i29))) (fX4_remember I b pm) (fun _ _ => True) trivial (fun _ _ _ _ => trivial) (fun i29 x29 hi3 hv4 k5 H locs ls hM hS hl => ?_) (fun hv4 H locs ls hM hS hl => ?_) _ _ _ hM hS (lv_sub hl [1, 2, 0] rfl)
    · have stp6 : ∀ yy_ : hm_I, yy_ = (hm_put x29 (b + 1) i29 (x29 (b + 3) (428 * i0 + i29))) → ∀ (H : Heap) (locs : List Loc) (ls : Array Slot), hm D T L A Sh yy_ J H → va_S A s_.heap H locs → lv_has ls 3 [(0, .ref b), (1, .int (nI i0)), (2, .int (nI (i29 + 1)))] → W p_ l e_ R s_ m_ args_ below_ meth_ c_ H locs 0 0 Qq (F0 m_ 29 ls []) := fun yy_ ey => by rw [ey]; exact k5
      refine lv_iload_n hx hb dX4_back_29 rfl (lv_at hl 2 rfl) ?_
      refine lv_sipush (v := nI 428) hx hb dX4_back_30 (by decide) ?_
      refine mr_geN (x := i29) (y := 428) (tgt := 60) C0 dX4_back_33 (by decide) (by omega) (by omega) (fun c7 => absurd c7 (by omega)) (fun c7 => ?_)
      refine lv_aload_n hx hb dX4_back_36 rfl (lv_at hl 0 rfl) ?_
      refine mr_getr (r := b + 1) (TT := TX4) (N := 10) C0 uX4_back_X4 hM hMo.1.1 hMo.1.2 rfl 0 (by decide) rfl kX4_back_f7 rfl dX4_back_37 ?_
      refine lv_iload_n hx hb dX4_back_40 rfl (lv_at hl 2 rfl) ?_
      refine lv_aload_n hx hb dX4_back_41 rfl (lv_at hl 0 rfl) ?_
      refine mr_getr (r := b + 3) (TT := TX4) (N := 10) C0 uX4_back_X4 hM hMo.1.1 hMo.1.2 rfl 3 (by decide) rfl kX4_back_f16 rfl dX4_back_42 ?_
      refine lv_sipush (v := nI 428) hx hb dX4_back_45 (by decide) ?_
      refine lv_iload_n hx hb dX4_back_48 rfl (lv_at hl 1 rfl) ?_
      refine mr_imulN (z := 428 * i0) C0 rfl dX4_back_49 ?_
      refine lv_iload_n hx hb dX4_back_50 rfl (lv_at hl 2 rfl) ?_
      refine mr_iaddN (z := 428 * i0 + i29) C0 rfl dX4_back_51 ?_
      refine mr_ialdN (v := x29 (b + 3) (428 * i0 + i29)) C0 hM hMo.2.2.2.1.1 hMo.2.2.2.1.2 (by decide) (by omega) rfl dX4_back_52 ?_
      refine mr_iastN C0 hM hS hMo.2.1.1 hMo.2.1.2 (by decide) (by omega) dX4_back_53 (fun H locs hM hS => ?_)
      refine lv_iinc (v := nI (i29 + 1)) (lv' := [(2, .int (nI (i29 + 1))), (0, .ref b), (1, .int (nI i0))]) hx hb dX4_back_54 hl (k := 2) rfl (nI_1 _) (by decide) rfl (fun ls hl => ?_)
      refine lv_goto (tgt := 29) hx hb dX4_back_57 (by decide) ?_
      exact stp6 (hm_put x29 (b + 1) i29 (x29 (b + 3) (428 * i0 + i29))) rfl H locs ls hM hS (lv_sub hl [1, 2, 0] rfl)
    · skip
      refine lv_iload_n hx hb dX4_back_29 rfl (lv_at hl 2 rfl) ?_
      refine lv_sipush (v := nI 428) hx hb dX4_back_30 (by decide) ?_
      refine mr_geN (x := 428) (y := 428) (tgt := 60) C0 dX4_back_33 (by decide) (by decide) (by decide) (fun _ => ?_) (fun c8 => absurd c8 (by decide))
      refine lv_aload_n hx hb dX4_back_60 rfl (lv_at hl 0 rfl) ?_
      refine mr_callV (As := []) C0 (ctX4_waiting (I := (lp 428 (fun i29 x29 => hm_put x29 (b + 1) i29 (x29 (b + 3) (428 * i0 + i29))) (fX4_remember I b pm))) (J := J) (b := b) hMo) (cwV 0 C0.1.2.2.2.2 gX4_back_X4_waiting rfl rfl rfl (by decide +kernel) (by rw [hR]; exact ⟨Nat.le_of_ble_eq_true rfl, Nat.le_of_ble_eq_true rfl⟩)) hM hMo.1.1 hMo.1.2 rfl rfl hM hS rfl rfl rfl hl.1 (Nat.le_of_ble_eq_true rfl) dX4_back_61 (by rw [hR]; exact ⟨Nat.zero_le _, Nat.zero_le _⟩) (fun H locs hM hS => ?_)
      have eF : (fX4_waiting (lp 428 (fun i29 x29 => hm_put x29 (b + 1) i29 (x29 (b + 3) (428 * i0 + i29))) (fX4_remember I b pm)) b, (lp 428 (fun i29 x29 => hm_put x29 (b + 1) i29 (x29 (b + 3) (428 * i0 + i29))) (fX4_remember I b pm))) = fX4_back_t I b pm i0 := by unfold fX4_back_t; rw [if_pos c2]
      exact mr_iret (v := fX4_waiting (lp 428 (fun i29 x29 => hm_put x29 (b + 1) i29 (x29 (b + 3) (428 * i0 + i29))) (fX4_remember I b pm)) b) C0 hr hlk hQ hS (by rw [← eF]) (by rw [← eF]; exact hM) (Nat.le_refl _) (Nat.le_refl _) dX4_back_64
  · skip
    refine lv_bipush (v := (-2)) hx hb dX4_back_20 (by decide) ?_
    have eF : ((-2), I) = fX4_back_t I b pm i0 := by unfold fX4_back_t; rw [if_neg (Bool.eq_false_iff.mp c2)]
    exact mr_iret (v := (-2)) C0 hr hlk hQ hS (by rw [← eF]) (by rw [← eF]; exact hM) (Nat.le_refl _) (Nat.le_refl _) dX4_back_22
