theorem kX4_isOpen_f7 : Cond.fieldLink RX4 7 "StreamMultiplexerModel" "w" "[I" ∈ wsX4_isOpen := List.mem_of_getElem? (i := 1) rfl
theorem uX4_isOpen_X4 : ∀ w ∈ wsX40, w ∈ wsX4_isOpen := fun w h => List.mem_cons_of_mem _ (List.mem_append_right _ h)
theorem kX4_remember_f39 : Cond.fieldLink RX4 39 "StreamMultiplexerModel" "pastMany" "I" ∈ wsX4_remember := List.mem_of_getElem? (i := 1) rfl
theorem uX4_remember_X4 : ∀ w ∈ wsX40, w ∈ wsX4_remember := fun w h => List.mem_cons_of_mem _ (List.mem_append_right _ h)
theorem kX4_remember_f13 : Cond.fieldLink RX4 13 "StreamMultiplexerModel" "past" "[I" ∈ wsX4_remember := List.mem_of_getElem? (i := 2) rfl
theorem kX4_remember_f7 : Cond.fieldLink RX4 7 "StreamMultiplexerModel" "w" "[I" ∈ wsX4_remember := List.mem_of_getElem? (i := 3) rfl
theorem kX4_frameAt_f7 : Cond.fieldLink RX4 7 "StreamMultiplexerModel" "w" "[I" ∈ wsX4_frameAt := List.mem_of_getElem? (i := 1) rfl
theorem uX4_frameAt_X4 : ∀ w ∈ wsX40, w ∈ wsX4_frameAt := fun w h => List.mem_cons_of_mem _ (List.mem_append_right _ h)
theorem kX4_isOrder_f7 : Cond.fieldLink RX4 7 "StreamMultiplexerModel" "w" "[I" ∈ wsX4_isOrder := List.mem_of_getElem? (i := 1) rfl
theorem uX4_isOrder_X4 : ∀ w ∈ wsX40, w ∈ wsX4_isOrder := fun w h => List.mem_cons_of_mem _ (List.mem_append_right _ h)
theorem kX4_layAfter_f19 : Cond.fieldLink RX4 19 "StreamMultiplexerModel" "after" "[I" ∈ wsX4_layAfter := List.mem_of_getElem? (i := 1) rfl
theorem uX4_layAfter_X4 : ∀ w ∈ wsX40, w ∈ wsX4_layAfter := fun w h => List.mem_cons_of_mem _ (List.mem_append_right _ h)
theorem kX4_layAfter_f7 : Cond.fieldLink RX4 7 "StreamMultiplexerModel" "w" "[I" ∈ wsX4_layAfter := List.mem_of_getElem? (i := 2) rfl
theorem kX4_edges_f7 : Cond.fieldLink RX4 7 "StreamMultiplexerModel" "w" "[I" ∈ wsX4_edges := List.mem_of_getElem? (i := 1) rfl
theorem uX4_edges_X4 : ∀ w ∈ wsX40, w ∈ wsX4_edges := fun w h => List.mem_cons_of_mem _ (List.mem_append_right _ h)
theorem kX4_blocking_f7 : Cond.fieldLink RX4 7 "StreamMultiplexerModel" "w" "[I" ∈ wsX4_blocking := List.mem_of_getElem? (i := 1) rfl
theorem uX4_blocking_X4 : ∀ w ∈ wsX40, w ∈ wsX4_blocking := fun w h => List.mem_cons_of_mem _ (List.mem_append_right _ h)
theorem kX4_blocking_f19 : Cond.fieldLink RX4 19 "StreamMultiplexerModel" "after" "[I" ∈ wsX4_blocking := List.mem_of_getElem? (i := 2) rfl
theorem kX4_isCandidate_f7 : Cond.fieldLink RX4 7 "StreamMultiplexerModel" "w" "[I" ∈ wsX4_isCandidate := List.mem_of_getElem? (i := 1) rfl
theorem uX4_isCandidate_X4 : ∀ w ∈ wsX40, w ∈ wsX4_isCandidate := fun w h => List.mem_cons_of_mem _ (List.mem_append_right _ h)
theorem kX4_nextStream_f7 : Cond.fieldLink RX4 7 "StreamMultiplexerModel" "w" "[I" ∈ wsX4_nextStream := List.mem_of_getElem? (i := 1) rfl
theorem uX4_nextStream_X4 : ∀ w ∈ wsX40, w ∈ wsX4_nextStream := fun w h => List.mem_cons_of_mem _ (List.mem_append_right _ h)
theorem kX4_waiting_f7 : Cond.fieldLink RX4 7 "StreamMultiplexerModel" "w" "[I" ∈ wsX4_waiting := List.mem_of_getElem? (i := 1) rfl
theorem uX4_waiting_X4 : ∀ w ∈ wsX40, w ∈ wsX4_waiting := fun w h => List.mem_cons_of_mem _ (List.mem_append_right _ h)
theorem kX4_opened_f7 : Cond.fieldLink RX4 7 "StreamMultiplexerModel" "w" "[I" ∈ wsX4_opened := List.mem_of_getElem? (i := 1) rfl
theorem uX4_opened_X4 : ∀ w ∈ wsX40, w ∈ wsX4_opened := fun w h => List.mem_cons_of_mem _ (List.mem_append_right _ h)
theorem kX4_openSet_f7 : Cond.fieldLink RX4 7 "StreamMultiplexerModel" "w" "[I" ∈ wsX4_openSet := List.mem_of_getElem? (i := 1) rfl
theorem uX4_openSet_X4 : ∀ w ∈ wsX40, w ∈ wsX4_openSet := fun w h => List.mem_cons_of_mem _ (List.mem_append_right _ h)
theorem kX4_waitingSize_f7 : Cond.fieldLink RX4 7 "StreamMultiplexerModel" "w" "[I" ∈ wsX4_waitingSize := List.mem_of_getElem? (i := 1) rfl
theorem uX4_waitingSize_X4 : ∀ w ∈ wsX40, w ∈ wsX4_waitingSize := fun w h => List.mem_cons_of_mem _ (List.mem_append_right _ h)
theorem kX4_isCommitted_f7 : Cond.fieldLink RX4 7 "StreamMultiplexerModel" "w" "[I" ∈ wsX4_isCommitted := List.mem_of_getElem? (i := 1) rfl
theorem uX4_isCommitted_X4 : ∀ w ∈ wsX40, w ∈ wsX4_isCommitted := fun w h => List.mem_cons_of_mem _ (List.mem_append_right _ h)
theorem kX4_pairs_f19 : Cond.fieldLink RX4 19 "StreamMultiplexerModel" "after" "[I" ∈ wsX4_pairs := List.mem_of_getElem? (i := 1) rfl
theorem uX4_pairs_X4 : ∀ w ∈ wsX40, w ∈ wsX4_pairs := fun w h => List.mem_cons_of_mem _ (List.mem_append_right _ h)
theorem kX4_longest_f28 : Cond.fieldLink RX4 28 "StreamMultiplexerModel" "chain" "[I" ∈ wsX4_longest := List.mem_of_getElem? (i := 2) rfl
theorem uX4_longest_X4 : ∀ w ∈ wsX40, w ∈ wsX4_longest := fun w h => List.mem_cons_of_mem _ (List.mem_append_right _ h)
theorem kX4_longest_f19 : Cond.fieldLink RX4 19 "StreamMultiplexerModel" "after" "[I" ∈ wsX4_longest := List.mem_of_getElem? (i := 1) rfl
theorem kX4_first_f19 : Cond.fieldLink RX4 19 "StreamMultiplexerModel" "after" "[I" ∈ wsX4_first := List.mem_of_getElem? (i := 1) rfl
theorem uX4_first_X4 : ∀ w ∈ wsX40, w ∈ wsX4_first := fun w h => List.mem_cons_of_mem _ (List.mem_append_right _ h)
theorem kX4_superfluous_f7 : Cond.fieldLink RX4 7 "StreamMultiplexerModel" "w" "[I" ∈ wsX4_superfluous := List.mem_of_getElem? (i := 1) rfl
theorem uX4_superfluous_X4 : ∀ w ∈ wsX40, w ∈ wsX4_superfluous := fun w h => List.mem_cons_of_mem _ (List.mem_append_right _ h)
theorem kX4_superfluous_f19 : Cond.fieldLink RX4 19 "StreamMultiplexerModel" "after" "[I" ∈ wsX4_superfluous := List.mem_of_getElem? (i := 2) rfl
theorem kX4_layLeft_f25 : Cond.fieldLink RX4 25 "StreamMultiplexerModel" "left" "[I" ∈ wsX4_layLeft := List.mem_of_getElem? (i := 1) rfl
theorem uX4_layLeft_X4 : ∀ w ∈ wsX40, w ∈ wsX4_layLeft := fun w h => List.mem_cons_of_mem _ (List.mem_append_right _ h)
theorem kX4_layLeft_f7 : Cond.fieldLink RX4 7 "StreamMultiplexerModel" "w" "[I" ∈ wsX4_layLeft := List.mem_of_getElem? (i := 2) rfl
/-- the reference's numbers: how many wait (c), their epochs (e), the latest epoch (ep), the entries of the log (lg) -/
def WfM (w : Nat → Int32) (c : Nat → Nat) (e : Nat → Nat → Nat) (ep lg : Nat) : Prop :=
  (∀ s, s < 8 → w (24 + s) = nI (c s) ∧ c s ≤ 6) ∧ (∀ s, s < 8 → ∀ k, k < c s → w (32 + 18 * s + 3 * k + 2) = nI (e s k) ∧ e s k ≤ ep) ∧ w 184 = nI ep ∧ ep ≤ 9 ∧ w 267 = nI lg ∧ lg ≤ 40
theorem WfM_eq {w w' : Nat → Int32} {c : Nat → Nat} {e : Nat → Nat → Nat} {ep lg : Nat} (h : w' = w) (W : WfM w c e ep lg) : WfM w' c e ep lg := by rw [h]; exact W
theorem best_nat {x : Int32} (h : x = -9 ∨ ∃ k : Nat, k < 8 ∧ x = nI k) (c : ¬ x = -9) : x = nI x.toNatClampNeg ∧ x.toNatClampNeg < 8 := by
  obtain ⟨k, hk, rfl⟩ := h.resolve_left c
  rw [nI_clamp (by omega)]
  exact ⟨rfl, hk⟩
theorem nI_ne_m1 {k : Nat} (h : k < 2 ^ 31) : ¬ nI k = -1 := fun q => by
  have h1 := nI_toInt h
  rw [q] at h1
  have h2 : (-1 : Int32).toInt = -1 := by decide
  omega
def fX4_isIn (v lo up : Int32) : Bool :=
  if v < lo then false else if up < v then false else true
set_option maxHeartbeats 4000000 in
set_option maxRecDepth 100000 in
theorem ctX4_isIn {l : Launch} {D : va_G} {T : Nat → ClassId} {L : List Nat} {A : Nat → Prop} {Sh : hm_S} {I : hm_I} {J : hm_J} {v lo up : Int32} :
    Ct l yX4_isIn wsX4_isIn { frames := 0, cells := 0, slots := 0, locals := 0 } 0 0 D T A [.int v, .int lo, .int up] (hm D T L A Sh I J) (some (.int (bI (fX4_isIn v lo up)))) (hm D T L A Sh I J) := by
  refine Ct.ofW (cc := cX4_isIn) (maxL := 3) (ret := (some .boolean)) (by decide) rfl (Nat.le_of_ble_eq_true rfl) ?_
  intro p_ e_ s_ m_ args_ below_ meth_ c_ ls R Qq hR hQ C0 hr hlk hname hM hl
  have hx := C0.1.1
  have hb := C0.1.2.1
  have hS : va_S A s_.heap s_.heap [] := va_S.rf
  have hl : lv_has ls 3 [(0, .int v), (1, .int lo), (2, .int up)] := hl
  refine lv_iload_n hx hb dX4_isIn_0 rfl (lv_at hl 0 rfl) ?_
  refine lv_iload_n hx hb dX4_isIn_1 rfl (lv_at hl 1 rfl) ?_
  refine lv_icmp_lt (tgt := 14) hx hb dX4_isIn_2 (by decide) (fun c1 => ?_) (fun c1 => ?_)
  · skip
    refine lv_iconst (v := nI 0) hx hb dX4_isIn_14 (by decide) ?_
    refine mr_top (y := bI false) (by decide) ?_
    have eF : false = fX4_isIn v lo up := by unfold fX4_isIn; rw [if_pos c1]
    exact mr_zret (b := false) C0 hr hlk hQ hS (by rw [← eF]) hM (Nat.le_refl _) (Nat.le_refl _) dX4_isIn_15
  · skip
    refine lv_iload_n hx hb dX4_isIn_5 rfl (lv_at hl 0 rfl) ?_
    refine lv_iload_n hx hb dX4_isIn_6 rfl (lv_at hl 2 rfl) ?_
    refine lv_icmp_gt (tgt := 14) hx hb dX4_isIn_7 (by decide) (fun c2 => ?_) (fun c2 => ?_)
    · skip
      refine lv_iconst (v := nI 0) hx hb dX4_isIn_14 (by decide) ?_
      refine mr_top (y := bI false) (by decide) ?_
      have eF : false = fX4_isIn v lo up := by unfold fX4_isIn; rw [if_neg c1, if_pos c2]
      exact mr_zret (b := false) C0 hr hlk hQ hS (by rw [← eF]) hM (Nat.le_refl _) (Nat.le_refl _) dX4_isIn_15
    · skip
      refine lv_iconst (v := nI 1) hx hb dX4_isIn_10 (by decide) ?_
      refine lv_goto (tgt := 15) hx hb dX4_isIn_11 (by decide) ?_
      refine mr_top (y := bI true) (by decide) ?_
      have eF : true = fX4_isIn v lo up := by unfold fX4_isIn; rw [if_neg c1, if_neg c2]
      exact mr_zret (b := true) C0 hr hlk hQ hS (by rw [← eF]) hM (Nat.le_refl _) (Nat.le_refl _) dX4_isIn_15
def fX4_has (u s0 : Int32) : Bool :=
  if (u >>> (s0 &&& 31)) &&& (nI 1) = nI 1 then true else false
set_option maxHeartbeats 4000000 in
set_option maxRecDepth 100000 in
theorem ctX4_has {l : Launch} {D : va_G} {T : Nat → ClassId} {L : List Nat} {A : Nat → Prop} {Sh : hm_S} {I : hm_I} {J : hm_J} {u s0 : Int32} :
    Ct l yX4_has wsX4_has { frames := 0, cells := 0, slots := 0, locals := 0 } 0 0 D T A [.int u, .int s0] (hm D T L A Sh I J) (some (.int (bI (fX4_has u s0)))) (hm D T L A Sh I J) := by
  refine Ct.ofW (cc := cX4_has) (maxL := 2) (ret := (some .boolean)) (by decide) rfl (Nat.le_of_ble_eq_true rfl) ?_
  intro p_ e_ s_ m_ args_ below_ meth_ c_ ls R Qq hR hQ C0 hr hlk hname hM hl
  have hx := C0.1.1
  have hb := C0.1.2.1
  have hS : va_S A s_.heap s_.heap [] := va_S.rf
  have hl : lv_has ls 2 [(0, .int u), (1, .int s0)] := hl
  refine lv_iload_n hx hb dX4_has_0 rfl (lv_at hl 0 rfl) ?_
  refine lv_iload_n hx hb dX4_has_1 rfl (lv_at hl 1 rfl) ?_
  refine lv_ishr hx hb dX4_has_2 ?_
  refine lv_iconst (v := nI 1) hx hb dX4_has_3 (by decide) ?_
  refine lv_iand hx hb dX4_has_4 ?_
  refine lv_iconst (v := nI 1) hx hb dX4_has_5 (by decide) ?_
  refine lv_icmp_ne (tgt := 13) hx hb dX4_has_6 (by decide) (fun c1 => ?_) (fun c1 => ?_)
  · skip
    refine lv_iconst (v := nI 0) hx hb dX4_has_13 (by decide) ?_
    refine mr_top (y := bI false) (by decide) ?_
    have eF : false = fX4_has u s0 := by unfold fX4_has; rw [if_neg c1]
    exact mr_zret (b := false) C0 hr hlk hQ hS (by rw [← eF]) hM (Nat.le_refl _) (Nat.le_refl _) dX4_has_14
  · skip
    refine lv_iconst (v := nI 1) hx hb dX4_has_9 (by decide) ?_
    refine lv_goto (tgt := 14) hx hb dX4_has_10 (by decide) ?_
    refine mr_top (y := bI true) (by decide) ?_
    have eF : true = fX4_has u s0 := by unfold fX4_has; rw [if_pos c1]
    exact mr_zret (b := true) C0 hr hlk hQ hS (by rw [← eF]) hM (Nat.le_refl _) (Nat.le_refl _) dX4_has_14
def fX4_isStream (s0 : Int32) : Bool :=
  fX4_isIn s0 (nI 0) (nI 7)
set_option maxHeartbeats 4000000 in
set_option maxRecDepth 100000 in
theorem ctX4_isStream {l : Launch} {D : va_G} {T : Nat → ClassId} {L : List Nat} {A : Nat → Prop} {Sh : hm_S} {I : hm_I} {J : hm_J} {s0 : Int32} :
    Ct l yX4_isStream wsX4_isStream { frames := 1, cells := 0, slots := 0, locals := 22 } 0 0 D T A [.int s0] (hm D T L A Sh I J) (some (.int (bI (fX4_isStream s0)))) (hm D T L A Sh I J) := by
  refine Ct.ofW (cc := cX4_isStream) (maxL := 1) (ret := (some .boolean)) (by decide) rfl (Nat.le_of_ble_eq_true rfl) ?_
  intro p_ e_ s_ m_ args_ below_ meth_ c_ ls R Qq hR hQ C0 hr hlk hname hM hl
  have hx := C0.1.1
  have hb := C0.1.2.1
  have hS : va_S A s_.heap s_.heap [] := va_S.rf
  have hl : lv_has ls 1 [(0, .int s0)] := hl
  refine lv_iload_n hx hb dX4_isStream_0 rfl (lv_at hl 0 rfl) ?_
  refine lv_iconst (v := nI 0) hx hb dX4_isStream_1 (by decide) ?_
  refine lv_bipush (v := nI 7) hx hb dX4_isStream_2 (by decide) ?_
  refine mr_callS (As := [.int s0, .int (nI 0), .int (nI 7)]) C0 (ctX4_isIn (I := I) (J := J) (v := s0) (lo := (nI 0)) (up := (nI 7)) ) (va_cwS 3 C0.1.2.2.2.2 gX4_isStream_X4_isIn rfl rfl rfl (by decide +kernel) (by rw [hR]; exact ⟨Nat.le_of_ble_eq_true rfl, Nat.le_of_ble_eq_true rfl⟩)) hM hS rfl rfl rfl hl.1 (Nat.le_of_ble_eq_true rfl) dX4_isStream_4 (by rw [hR]; exact ⟨Nat.zero_le _, Nat.zero_le _⟩) (fun H locs hM hS => ?_)
  have eF : fX4_isIn s0 (nI 0) (nI 7) = fX4_isStream s0 := rfl
  exact mr_zret (b := fX4_isIn s0 (nI 0) (nI 7)) C0 hr hlk hQ hS (by rw [← eF]) hM (Nat.le_refl _) (Nat.le_refl _) dX4_isStream_7
theorem isStreamM_of {k : Nat} (h : k < 8) : fX4_isStream (nI k) = true := by
  unfold fX4_isStream fX4_isIn
  rw [if_neg (fun q => absurd ((nI_ltI (by omega) (by decide)).mp q) (by omega)), if_neg (fun q => absurd ((nI_ltI (by decide) (by omega)).mp q) (by omega))]
theorem isStreamM_eq (x : Int32) : fX4_isStream x = fX3_isStream x := by
  unfold fX4_isStream fX4_isIn fX3_isStream
  by_cases h1 : x < 0
  · rw [if_pos h1, if_pos (show x < nI 0 from h1)]
  · rw [if_neg h1, if_neg (show ¬ x < nI 0 from h1)]
    obtain ⟨j, hj, rfl⟩ := nI_of h1
    by_cases h2 : 8 ≤ j
    · rw [if_pos ((nI_ltI (by decide) hj).mpr (by omega)), if_pos ((nI_leI (by decide) hj).mpr h2)]
    · rw [if_neg (fun q => h2 (by have := (nI_ltI (by decide) hj).mp q; omega)), if_neg (fun q => h2 ((nI_leI (by decide) hj).mp q))]
theorem isStreamM_t {l : Launch} {D : va_G} {T : Nat → ClassId} {L : List Nat} {A : Nat → Prop} {Sh : hm_S} {I : hm_I} {J : hm_J} {s0 : Nat} (hs0 : s0 < 8) : Ct l yX4_isStream wsX4_isStream { frames := 1, cells := 0, slots := 0, locals := 22 } 0 0 D T A [.int (nI s0)] (hm D T L A Sh I J) (some (.int (bI true))) (hm D T L A Sh I J) := by
  have := @ctX4_isStream l D T L A Sh I J (nI s0)
  rw [isStreamM_of hs0] at this
  exact this
def fX4_isOpen (I : hm_I) (b s0 : Nat) : Bool :=
  if I (b + 1) (0 + s0) = nI 1 then true else false
set_option maxHeartbeats 4000000 in
set_option maxRecDepth 100000 in
theorem ctX4_isOpen {l : Launch} {D : va_G} {T : Nat → ClassId} {L : List Nat} {A : Nat → Prop} {Sh : hm_S} {I : hm_I} {J : hm_J} {b : Nat} (hMo : IsM L Sh b) {s0 : Nat} (hs0 : s0 < 8) :
    Ct l yX4_isOpen wsX4_isOpen { frames := 0, cells := 0, slots := 0, locals := 0 } 0 0 D T A [.ref b, .int (nI s0)] (hm D T L A Sh I J) (some (.int (bI (fX4_isOpen I b s0)))) (hm D T L A Sh I J) := by
  refine Ct.ofW (cc := cX4_isOpen) (maxL := 2) (ret := (some .boolean)) (by decide) rfl (Nat.le_of_ble_eq_true rfl) ?_
  intro p_ e_ s_ m_ args_ below_ meth_ c_ ls R Qq hR hQ C0 hr hlk hname hM hl
  have hx := C0.1.1
  have hb := C0.1.2.1
  have hS : va_S A s_.heap s_.heap [] := va_S.rf
  have hl : lv_has ls 2 [(0, .ref b), (1, .int (nI s0))] := hl
  refine lv_aload_n hx hb dX4_isOpen_0 rfl (lv_at hl 0 rfl) ?_
  refine mr_getr (r := b + 1) (TT := TX4) (N := 10) C0 uX4_isOpen_X4 hM hMo.1.1 hMo.1.2 rfl 0 (by decide) rfl kX4_isOpen_f7 rfl dX4_isOpen_1 ?_
  refine lv_iconst (v := nI 0) hx hb dX4_isOpen_4 (by decide) ?_
  refine lv_iload_n hx hb dX4_isOpen_5 rfl (lv_at hl 1 rfl) ?_
  refine mr_iaddN (z := 0 + s0) C0 rfl dX4_isOpen_6 ?_
  refine mr_ialdN (v := I (b + 1) (0 + s0)) C0 hM hMo.2.1.1 hMo.2.1.2 (by decide) (by omega) rfl dX4_isOpen_7 ?_
  refine lv_iconst (v := nI 1) hx hb dX4_isOpen_8 (by decide) ?_
  refine lv_icmp_ne (tgt := 16) hx hb dX4_isOpen_9 (by decide) (fun c1 => ?_) (fun c1 => ?_)
  · skip
    refine lv_iconst (v := nI 0) hx hb dX4_isOpen_16 (by decide) ?_
    refine mr_top (y := bI false) (by decide) ?_
    have eF : false = fX4_isOpen I b s0 := by unfold fX4_isOpen; rw [if_neg c1]
    exact mr_zret (b := false) C0 hr hlk hQ hS (by rw [← eF]) hM (Nat.le_refl _) (Nat.le_refl _) dX4_isOpen_17
  · skip
    refine lv_iconst (v := nI 1) hx hb dX4_isOpen_12 (by decide) ?_
    refine lv_goto (tgt := 17) hx hb dX4_isOpen_13 (by decide) ?_
    refine mr_top (y := bI true) (by decide) ?_
    have eF : true = fX4_isOpen I b s0 := by unfold fX4_isOpen; rw [if_pos c1]
    exact mr_zret (b := true) C0 hr hlk hQ hS (by rw [← eF]) hM (Nat.le_refl _) (Nat.le_refl _) dX4_isOpen_17
def fX4_remember (I : hm_I) (b pm : Nat) : hm_I :=
  if pm = 8 then hm_put (lp 428 (fun i52 x52 => hm_put x52 (b + 2) (428 * (pm - 1) + i52) (x52 (b + 1) i52)) (hm_put (lp 2996 (fun i11 x11 => hm_put x11 (b + 2) i11 (x11 (b + 2) (i11 + 428))) I) b 2 (nI (pm - 1)))) b 2 (nI ((pm - 1) + 1)) else hm_put (lp 428 (fun i52 x52 => hm_put x52 (b + 2) (428 * pm + i52) (x52 (b + 1) i52)) I) b 2 (nI (pm + 1))
set_option maxHeartbeats 4000000 in
set_option maxRecDepth 100000 in
theorem ctX4_remember {l : Launch} {D : va_G} {T : Nat → ClassId} {L : List Nat} {A : Nat → Prop} {Sh : hm_S} {I : hm_I} {J : hm_J} {b : Nat} (hMo : IsM L Sh b) {pm : Nat} (hpm : I b 2 = nI pm) (hp8 : pm ≤ 8) :
    Ct l yX4_remember wsX4_remember { frames := 0, cells := 0, slots := 0, locals := 0 } 0 0 D T A [.ref b] (hm D T L A Sh I J) none (hm D T L A Sh (fX4_remember I b pm) J) := by
  refine Ct.ofW (cc := cX4_remember) (maxL := 2) (ret := none) (by decide) rfl (Nat.le_of_ble_eq_true rfl) ?_
  intro p_ e_ s_ m_ args_ below_ meth_ c_ ls R Qq hR hQ C0 hr hlk hname hM hl
  have hx := C0.1.1
  have hb := C0.1.2.1
  have hS : va_S A s_.heap s_.heap [] := va_S.rf
  have hl : lv_has ls 2 [(0, .ref b)] := hl
  refine lv_aload_n hx hb dX4_remember_0 rfl (lv_at hl 0 rfl) ?_
  refine mr_geti (v := nI pm) (TT := TX4) (N := 10) C0 uX4_remember_X4 hM hMo.1.1 hMo.1.2 rfl 2 (by decide) rfl hpm kX4_remember_f39 rfl dX4_remember_1 ?_
  refine lv_bipush (v := nI 8) hx hb dX4_remember_4 (by decide) ?_
  refine mr_neN (x := pm) (y := 8) (tgt := 50) C0 dX4_remember_6 (by decide) (by omega) (by omega) (fun c1 => ?_) (fun c1 => ?_)
  · skip
    refine lv_iconst (v := nI 0) hx hb dX4_remember_50 (by decide) ?_
    refine lv_istore_n (lv' := [(1, .int (nI 0)), (0, .ref b)]) hx hb dX4_remember_51 rfl hl (by decide) rfl (fun ls hl => ?_)
    refine lp_loop (σ := hm_I) (fun i52 x52 => ∀ (H : Heap) (locs : List Loc) (ls : Array Slot), hm D T L A Sh x52 J H → va_S A s_.heap H locs → lv_has ls 2 [(0, .ref b), (1, .int (nI i52))] → W p_ l e_ R s_ m_ args_ below_ meth_ c_ H locs 0 0 Qq (F0 m_ 52 ls [])) 428 (fun i52 x52 => hm_put x52 (b + 2) (428 * pm + i52) (x52 (b + 1) i52)) I (fun (i52 : Nat) (x52 : hm_I) => x52 b 2 = nI pm) hpm (fun i x _ hv => (hm_put_get (by omega)).trans hv) (fun i52 x52 hi2 hv3 k4 H locs ls hM hS hl => ?_) (fun hv3 H locs ls hM hS hl => ?_) _ _ _ hM hS (lv_sub hl [1, 0] rfl)
    · have stp5 : ∀ yy_ : hm_I, yy_ = (hm_put x52 (b + 2) (428 * pm + i52) (x52 (b + 1) i52)) → ∀ (H : Heap) (locs : List Loc) (ls : Array Slot), hm D T L A Sh yy_ J H → va_S A s_.heap H locs → lv_has ls 2 [(0, .ref b), (1, .int (nI (i52 + 1)))] → W p_ l e_ R s_ m_ args_ below_ meth_ c_ H locs 0 0 Qq (F0 m_ 52 ls []) := fun yy_ ey => by rw [ey]; exact k4
      refine lv_iload_n hx hb dX4_remember_52 rfl (lv_at hl 1 rfl) ?_
      refine lv_sipush (v := nI 428) hx hb dX4_remember_53 (by decide) ?_
      refine mr_geN (x := i52) (y := 428) (tgt := 86) C0 dX4_remember_56 (by decide) (by omega) (by omega) (fun c6 => absurd c6 (by omega)) (fun c6 => ?_)
      refine lv_aload_n hx hb dX4_remember_59 rfl (lv_at hl 0 rfl) ?_
      refine mr_getr (r := b + 2) (TT := TX4) (N := 10) C0 uX4_remember_X4 hM hMo.1.1 hMo.1.2 rfl 1 (by decide) rfl kX4_remember_f13 rfl dX4_remember_60 ?_
      refine lv_sipush (v := nI 428) hx hb dX4_remember_63 (by decide) ?_
      refine lv_aload_n hx hb dX4_remember_66 rfl (lv_at hl 0 rfl) ?_
      refine mr_geti (v := nI pm) (TT := TX4) (N := 10) C0 uX4_remember_X4 hM hMo.1.1 hMo.1.2 rfl 2 (by decide) rfl hv3 kX4_remember_f39 rfl dX4_remember_67 ?_
      refine mr_imulN (z := 428 * pm) C0 rfl dX4_remember_70 ?_
      refine lv_iload_n hx hb dX4_remember_71 rfl (lv_at hl 1 rfl) ?_
      refine mr_iaddN (z := 428 * pm + i52) C0 rfl dX4_remember_72 ?_
      refine lv_aload_n hx hb dX4_remember_73 rfl (lv_at hl 0 rfl) ?_
      refine mr_getr (r := b + 1) (TT := TX4) (N := 10) C0 uX4_remember_X4 hM hMo.1.1 hMo.1.2 rfl 0 (by decide) rfl kX4_remember_f7 rfl dX4_remember_74 ?_
      refine lv_iload_n hx hb dX4_remember_77 rfl (lv_at hl 1 rfl) ?_
      refine mr_ialdN (v := x52 (b + 1) i52) C0 hM hMo.2.1.1 hMo.2.1.2 (by decide) (by omega) rfl dX4_remember_78 ?_
      refine mr_iastN C0 hM hS hMo.2.2.1.1 hMo.2.2.1.2 (by decide) (by omega) dX4_remember_79 (fun H locs hM hS => ?_)
      refine lv_iinc (v := nI (i52 + 1)) (lv' := [(1, .int (nI (i52 + 1))), (0, .ref b)]) hx hb dX4_remember_80 hl (k := 1) rfl (nI_1 _) (by decide) rfl (fun ls hl => ?_)
      refine lv_goto (tgt := 52) hx hb dX4_remember_83 (by decide) ?_
      exact stp5 (hm_put x52 (b + 2) (428 * pm + i52) (x52 (b + 1) i52)) rfl H locs ls hM hS (lv_sub hl [1, 0] rfl)
    · skip
      refine lv_iload_n hx hb dX4_remember_52 rfl (lv_at hl 1 rfl) ?_
      refine lv_sipush (v := nI 428) hx hb dX4_remember_53 (by decide) ?_
      refine mr_geN (x := 428) (y := 428) (tgt := 86) C0 dX4_remember_56 (by decide) (by decide) (by decide) (fun _ => ?_) (fun c7 => absurd c7 (by decide))
      refine lv_aload_n hx hb dX4_remember_86 rfl (lv_at hl 0 rfl) ?_
      refine lv_dup hx hb dX4_remember_87 rfl ?_
      refine mr_geti (v := nI pm) (TT := TX4) (N := 10) C0 uX4_remember_X4 hM hMo.1.1 hMo.1.2 rfl 2 (by decide) rfl hv3 kX4_remember_f39 rfl dX4_remember_88 ?_
      refine lv_iconst (v := nI 1) hx hb dX4_remember_91 (by decide) ?_
      refine mr_iaddN (z := pm + 1) C0 rfl dX4_remember_92 ?_
      refine mr_puti (TT := TX4) (N := 10) C0 uX4_remember_X4 tyX4 tyX4_ok nmX4 hM hS hMo.1.1 hMo.1.2 rfl 2 (by decide) rfl kX4_remember_f39 rfl rfl (by decide +kernel) dX4_remember_93 (fun H locs hM hS => ?_)
      have eF : hm_put (lp 428 (fun i52 x52 => hm_put x52 (b + 2) (428 * pm + i52) (x52 (b + 1) i52)) I) b 2 (nI (pm + 1)) = fX4_remember I b pm := by unfold fX4_remember; rw [if_neg c1]
      exact mr_vret C0 hr hlk hQ hS rfl (by rw [← eF]; exact hM) (Nat.le_refl _) (Nat.le_refl _) dX4_remember_96
  · skip
    refine lv_iconst (v := nI 0) hx hb dX4_remember_9 (by decide) ?_
    refine lv_istore_n (lv' := [(1, .int (nI 0)), (0, .ref b)]) hx hb dX4_remember_10 rfl hl (by decide) rfl (fun ls hl => ?_)
    refine lp_loop (σ := hm_I) (fun i11 x11 => ∀ (H : Heap) (locs : List Loc) (ls : Array Slot), hm D T L A Sh x11 J H → va_S A s_.heap H locs → lv_has ls 2 [(0, .ref b), (1, .int (nI i11))] → W p_ l e_ R s_ m_ args_ below_ meth_ c_ H locs 0 0 Qq (F0 m_ 11 ls [])) 2996 (fun i11 x11 => hm_put x11 (b + 2) i11 (x11 (b + 2) (i11 + 428))) I (fun (i11 : Nat) (x11 : hm_I) => x11 b 2 = nI pm) hpm (fun i x _ hv => (hm_put_get (by omega)).trans hv) (fun i11 x11 hi8 hv9 k10 H locs ls hM hS hl => ?_) (fun hv9 H locs ls hM hS hl => ?_) _ _ _ hM hS (lv_sub hl [1, 0] rfl)
    · have stp11 : ∀ yy_ : hm_I, yy_ = (hm_put x11 (b + 2) i11 (x11 (b + 2) (i11 + 428))) → ∀ (H : Heap) (locs : List Loc) (ls : Array Slot), hm D T L A Sh yy_ J H → va_S A s_.heap H locs → lv_has ls 2 [(0, .ref b), (1, .int (nI (i11 + 1)))] → W p_ l e_ R s_ m_ args_ below_ meth_ c_ H locs 0 0 Qq (F0 m_ 11 ls []) := fun yy_ ey => by rw [ey]; exact k10
      refine lv_iload_n hx hb dX4_remember_11 rfl (lv_at hl 1 rfl) ?_
      refine lv_sipush (v := nI 2996) hx hb dX4_remember_12 (by decide) ?_
      refine mr_geN (x := i11) (y := 2996) (tgt := 40) C0 dX4_remember_15 (by decide) (by omega) (by omega) (fun c12 => absurd c12 (by omega)) (fun c12 => ?_)
      refine lv_aload_n hx hb dX4_remember_18 rfl (lv_at hl 0 rfl) ?_
      refine mr_getr (r := b + 2) (TT := TX4) (N := 10) C0 uX4_remember_X4 hM hMo.1.1 hMo.1.2 rfl 1 (by decide) rfl kX4_remember_f13 rfl dX4_remember_19 ?_
      refine lv_iload_n hx hb dX4_remember_22 rfl (lv_at hl 1 rfl) ?_
      refine lv_aload_n hx hb dX4_remember_23 rfl (lv_at hl 0 rfl) ?_
      refine mr_getr (r := b + 2) (TT := TX4) (N := 10) C0 uX4_remember_X4 hM hMo.1.1 hMo.1.2 rfl 1 (by decide) rfl kX4_remember_f13 rfl dX4_remember_24 ?_
      refine lv_iload_n hx hb dX4_remember_27 rfl (lv_at hl 1 rfl) ?_
      refine lv_sipush (v := nI 428) hx hb dX4_remember_28 (by decide) ?_
      refine mr_iaddN (z := i11 + 428) C0 rfl dX4_remember_31 ?_
      refine mr_ialdN (v := x11 (b + 2) (i11 + 428)) C0 hM hMo.2.2.1.1 hMo.2.2.1.2 (by decide) (by omega) rfl dX4_remember_32 ?_
      refine mr_iastN C0 hM hS hMo.2.2.1.1 hMo.2.2.1.2 (by decide) (by omega) dX4_remember_33 (fun H locs hM hS => ?_)
      refine lv_iinc (v := nI (i11 + 1)) (lv' := [(1, .int (nI (i11 + 1))), (0, .ref b)]) hx hb dX4_remember_34 hl (k := 1) rfl (nI_1 _) (by decide) rfl (fun ls hl => ?_)
      refine lv_goto (tgt := 11) hx hb dX4_remember_37 (by decide) ?_
      exact stp11 (hm_put x11 (b + 2) i11 (x11 (b + 2) (i11 + 428))) rfl H locs ls hM hS (lv_sub hl [1, 0] rfl)
    · skip
      refine lv_iload_n hx hb dX4_remember_11 rfl (lv_at hl 1 rfl) ?_
      refine lv_sipush (v := nI 2996) hx hb dX4_remember_12 (by decide) ?_
      refine mr_geN (x := 2996) (y := 2996) (tgt := 40) C0 dX4_remember_15 (by decide) (by decide) (by decide) (fun _ => ?_) (fun c13 => absurd c13 (by decide))
      refine lv_aload_n hx hb dX4_remember_40 rfl (lv_at hl 0 rfl) ?_
      refine lv_dup hx hb dX4_remember_41 rfl ?_
      refine mr_geti (v := nI pm) (TT := TX4) (N := 10) C0 uX4_remember_X4 hM hMo.1.1 hMo.1.2 rfl 2 (by decide) rfl hv9 kX4_remember_f39 rfl dX4_remember_42 ?_
      refine lv_iconst (v := nI 1) hx hb dX4_remember_45 (by decide) ?_
      refine mr_isubN (z := (pm - 1)) C0 (by omega) dX4_remember_46 ?_
      refine mr_puti (TT := TX4) (N := 10) C0 uX4_remember_X4 tyX4 tyX4_ok nmX4 hM hS hMo.1.1 hMo.1.2 rfl 2 (by decide) rfl kX4_remember_f39 rfl rfl (by decide +kernel) dX4_remember_47 (fun H locs hM hS => ?_)
      refine lv_iconst (v := nI 0) hx hb dX4_remember_50 (by decide) ?_
      refine lv_istore_n (lv' := [(1, .int (nI 0)), (0, .ref b)]) hx hb dX4_remember_51 rfl hl (by decide) rfl (fun ls hl => ?_)
      refine lp_loop (σ := hm_I) (fun i52 x52 => ∀ (H : Heap) (locs : List Loc) (ls : Array Slot), hm D T L A Sh x52 J H → va_S A s_.heap H locs → lv_has ls 2 [(0, .ref b), (1, .int (nI i52))] → W p_ l e_ R s_ m_ args_ below_ meth_ c_ H locs 0 0 Qq (F0 m_ 52 ls [])) 428 (fun i52 x52 => hm_put x52 (b + 2) (428 * (pm - 1) + i52) (x52 (b + 1) i52)) (hm_put (lp 2996 (fun i11 x11 => hm_put x11 (b + 2) i11 (x11 (b + 2) (i11 + 428))) I) b 2 (nI (pm - 1))) (fun (i52 : Nat) (x52 : hm_I) => x52 b 2 = nI (pm - 1)) (hm_put_at _ _ _ _) (fun i x _ hv => (hm_put_get (by omega)).trans hv) (fun i52 x52 hi14 hv15 k16 H locs ls hM hS hl => ?_) (fun hv15 H locs ls hM hS hl => ?_) _ _ _ hM hS (lv_sub hl [1, 0] rfl)
      · have stp17 : ∀ yy_ : hm_I, yy_ = (hm_put x52 (b + 2) (428 * (pm - 1) + i52) (x52 (b + 1) i52)) → ∀ (H : Heap) (locs : List Loc) (ls : Array Slot), hm D T L A Sh yy_ J H → va_S A s_.heap H locs → lv_has ls 2 [(0, .ref b), (1, .int (nI (i52 + 1)))] → W p_ l e_ R s_ m_ args_ below_ meth_ c_ H locs 0 0 Qq (F0 m_ 52 ls []) := fun yy_ ey => by rw [ey]; exact k16
        refine lv_iload_n hx hb dX4_remember_52 rfl (lv_at hl 1 rfl) ?_
        refine lv_sipush (v := nI 428) hx hb dX4_remember_53 (by decide) ?_
        refine mr_geN (x := i52) (y := 428) (tgt := 86) C0 dX4_remember_56 (by decide) (by omega) (by omega) (fun c18 => absurd c18 (by omega)) (fun c18 => ?_)
        refine lv_aload_n hx hb dX4_remember_59 rfl (lv_at hl 0 rfl) ?_
        refine mr_getr (r := b + 2) (TT := TX4) (N := 10) C0 uX4_remember_X4 hM hMo.1.1 hMo.1.2 rfl 1 (by decide) rfl kX4_remember_f13 rfl dX4_remember_60 ?_
        refine lv_sipush (v := nI 428) hx hb dX4_remember_63 (by decide) ?_
        refine lv_aload_n hx hb dX4_remember_66 rfl (lv_at hl 0 rfl) ?_
        refine mr_geti (v := nI (pm - 1)) (TT := TX4) (N := 10) C0 uX4_remember_X4 hM hMo.1.1 hMo.1.2 rfl 2 (by decide) rfl hv15 kX4_remember_f39 rfl dX4_remember_67 ?_
        refine mr_imulN (z := 428 * (pm - 1)) C0 rfl dX4_remember_70 ?_
        refine lv_iload_n hx hb dX4_remember_71 rfl (lv_at hl 1 rfl) ?_
        refine mr_iaddN (z := 428 * (pm - 1) + i52) C0 rfl dX4_remember_72 ?_
        refine lv_aload_n hx hb dX4_remember_73 rfl (lv_at hl 0 rfl) ?_
        refine mr_getr (r := b + 1) (TT := TX4) (N := 10) C0 uX4_remember_X4 hM hMo.1.1 hMo.1.2 rfl 0 (by decide) rfl kX4_remember_f7 rfl dX4_remember_74 ?_
        refine lv_iload_n hx hb dX4_remember_77 rfl (lv_at hl 1 rfl) ?_
        refine mr_ialdN (v := x52 (b + 1) i52) C0 hM hMo.2.1.1 hMo.2.1.2 (by decide) (by omega) rfl dX4_remember_78 ?_
        refine mr_iastN C0 hM hS hMo.2.2.1.1 hMo.2.2.1.2 (by decide) (by omega) dX4_remember_79 (fun H locs hM hS => ?_)
        refine lv_iinc (v := nI (i52 + 1)) (lv' := [(1, .int (nI (i52 + 1))), (0, .ref b)]) hx hb dX4_remember_80 hl (k := 1) rfl (nI_1 _) (by decide) rfl (fun ls hl => ?_)
        refine lv_goto (tgt := 52) hx hb dX4_remember_83 (by decide) ?_
        exact stp17 (hm_put x52 (b + 2) (428 * (pm - 1) + i52) (x52 (b + 1) i52)) rfl H locs ls hM hS (lv_sub hl [1, 0] rfl)
      · skip
        refine lv_iload_n hx hb dX4_remember_52 rfl (lv_at hl 1 rfl) ?_
        refine lv_sipush (v := nI 428) hx hb dX4_remember_53 (by decide) ?_
        refine mr_geN (x := 428) (y := 428) (tgt := 86) C0 dX4_remember_56 (by decide) (by decide) (by decide) (fun _ => ?_) (fun c19 => absurd c19 (by decide))
        refine lv_aload_n hx hb dX4_remember_86 rfl (lv_at hl 0 rfl) ?_
        refine lv_dup hx hb dX4_remember_87 rfl ?_
        refine mr_geti (v := nI (pm - 1)) (TT := TX4) (N := 10) C0 uX4_remember_X4 hM hMo.1.1 hMo.1.2 rfl 2 (by decide) rfl hv15 kX4_remember_f39 rfl dX4_remember_88 ?_
        refine lv_iconst (v := nI 1) hx hb dX4_remember_91 (by decide) ?_
        refine mr_iaddN (z := (pm - 1) + 1) C0 rfl dX4_remember_92 ?_
        refine mr_puti (TT := TX4) (N := 10) C0 uX4_remember_X4 tyX4 tyX4_ok nmX4 hM hS hMo.1.1 hMo.1.2 rfl 2 (by decide) rfl kX4_remember_f39 rfl rfl (by decide +kernel) dX4_remember_93 (fun H locs hM hS => ?_)
        have eF : hm_put (lp 428 (fun i52 x52 => hm_put x52 (b + 2) (428 * (pm - 1) + i52) (x52 (b + 1) i52)) (hm_put (lp 2996 (fun i11 x11 => hm_put x11 (b + 2) i11 (x11 (b + 2) (i11 + 428))) I) b 2 (nI (pm - 1)))) b 2 (nI ((pm - 1) + 1)) = fX4_remember I b pm := by unfold fX4_remember; rw [if_pos c1]
        exact mr_vret C0 hr hlk hQ hS rfl (by rw [← eF]; exact hM) (Nat.le_refl _) (Nat.le_refl _) dX4_remember_96
theorem fX4_remember_ne {I : hm_I} {b pm x0 : Nat} (h : x0 ≠ b) (h2 : x0 ≠ b + 2) : fX4_remember I b pm x0 = I x0 := by
  unfold fX4_remember
  by_cases h8 : pm = 8
  · rw [if_pos h8, hm_put_ne _ _ _ _ h]
    refine lp_inv (fun _ (x : hm_I) => x x0 = I x0) ?_ (fun i x _ hx => by rw [hm_put_ne _ _ _ _ h2]; exact hx)
    rw [hm_put_ne _ _ _ _ h]
    exact lp_inv (fun _ (x : hm_I) => x x0 = I x0) rfl (fun i x _ hx => by rw [hm_put_ne _ _ _ _ h2]; exact hx)
  · rw [if_neg h8, hm_put_ne _ _ _ _ h]
    exact lp_inv (fun _ (x : hm_I) => x x0 = I x0) rfl (fun i x _ hx => by rw [hm_put_ne _ _ _ _ h2]; exact hx)
set_option maxHeartbeats 4000000 in
set_option maxRecDepth 100000 in
theorem ctX4_frameAt_t {l : Launch} {D : va_G} {T : Nat → ClassId} {L : List Nat} {A : Nat → Prop} {Sh : hm_S} {I : hm_I} {J : hm_J} {b : Nat} (hMo : IsM L Sh b) {s0 k0 w0 : Nat} (hb0 : 32 + 18 * s0 + 3 * k0 + w0 < 428) :
    Ct l yX4_frameAt wsX4_frameAt { frames := 0, cells := 0, slots := 0, locals := 0 } 0 0 D T A [.ref b, .int (nI s0), .int (nI k0), .int (nI w0)] (hm D T L A Sh I J) (some (.int (I (b + 1) (32 + 18 * s0 + 3 * k0 + w0)))) (hm D T L A Sh I J) := by
  refine Ct.ofW (cc := cX4_frameAt) (maxL := 4) (ret := (some .int)) (by decide) rfl (Nat.le_of_ble_eq_true rfl) ?_
  intro p_ e_ s_ m_ args_ below_ meth_ c_ ls R Qq hR hQ C0 hr hlk hname hM hl
  have hx := C0.1.1
  have hb := C0.1.2.1
  have hS : va_S A s_.heap s_.heap [] := va_S.rf
  have hl : lv_has ls 4 [(0, .ref b), (1, .int (nI s0)), (2, .int (nI k0)), (3, .int (nI w0))] := hl
  refine lv_aload_n hx hb dX4_frameAt_0 rfl (lv_at hl 0 rfl) ?_
  refine mr_getr (r := b + 1) (TT := TX4) (N := 10) C0 uX4_frameAt_X4 hM hMo.1.1 hMo.1.2 rfl 0 (by decide) rfl kX4_frameAt_f7 rfl dX4_frameAt_1 ?_
  refine lv_bipush (v := nI 32) hx hb dX4_frameAt_4 (by decide) ?_
  refine lv_bipush (v := nI 18) hx hb dX4_frameAt_6 (by decide) ?_
  refine lv_iload_n hx hb dX4_frameAt_8 rfl (lv_at hl 1 rfl) ?_
  refine mr_imulN (z := 18 * s0) C0 rfl dX4_frameAt_9 ?_
  refine mr_iaddN (z := 32 + 18 * s0) C0 rfl dX4_frameAt_10 ?_
  refine lv_iconst (v := nI 3) hx hb dX4_frameAt_11 (by decide) ?_
  refine lv_iload_n hx hb dX4_frameAt_12 rfl (lv_at hl 2 rfl) ?_
  refine mr_imulN (z := 3 * k0) C0 rfl dX4_frameAt_13 ?_
  refine mr_iaddN (z := 32 + 18 * s0 + 3 * k0) C0 rfl dX4_frameAt_14 ?_
  refine lv_iload_n hx hb dX4_frameAt_15 rfl (lv_at hl 3 rfl) ?_
  refine mr_iaddN (z := 32 + 18 * s0 + 3 * k0 + w0) C0 rfl dX4_frameAt_16 ?_
  refine mr_ialdN (v := I (b + 1) (32 + 18 * s0 + 3 * k0 + w0)) C0 hM hMo.2.1.1 hMo.2.1.2 (by decide) (by omega) rfl dX4_frameAt_17 ?_
  skip
  exact mr_iret (v := I (b + 1) (32 + 18 * s0 + 3 * k0 + w0)) C0 hr hlk hQ hS rfl hM (Nat.le_refl _) (Nat.le_refl _) dX4_frameAt_18
set_option maxHeartbeats 4000000 in
set_option maxRecDepth 100000 in
theorem ctX4_orderOf_t {l : Launch} {D : va_G} {T : Nat → ClassId} {L : List Nat} {A : Nat → Prop} {Sh : hm_S} {I : hm_I} {J : hm_J} {e0 : Nat} (he0 : e0 < 100) :
    Ct l yX4_orderOf wsX4_orderOf { frames := 0, cells := 0, slots := 0, locals := 0 } 0 0 D T A [.int (nI e0)] (hm D T L A Sh I J) (some (.int (nI (185 + 8 * e0)))) (hm D T L A Sh I J) := by
  refine Ct.ofW (cc := cX4_orderOf) (maxL := 1) (ret := (some .int)) (by decide) rfl (Nat.le_of_ble_eq_true rfl) ?_
  intro p_ e_ s_ m_ args_ below_ meth_ c_ ls R Qq hR hQ C0 hr hlk hname hM hl
  have hx := C0.1.1
  have hb := C0.1.2.1
  have hS : va_S A s_.heap s_.heap [] := va_S.rf
  have hl : lv_has ls 1 [(0, .int (nI e0))] := hl
  refine lv_iload_n hx hb dX4_orderOf_0 rfl (lv_at hl 0 rfl) ?_
  refine lv_if_ge (tgt := 10) hx hb dX4_orderOf_1 (by decide) (fun c1 => ?_) (fun c1 => absurd (nI_pos' (by omega)) c1)
  refine lv_sipush (v := nI 185) hx hb dX4_orderOf_10 (by decide) ?_
  refine lv_bipush (v := nI 8) hx hb dX4_orderOf_13 (by decide) ?_
  refine lv_iload_n hx hb dX4_orderOf_15 rfl (lv_at hl 0 rfl) ?_
  refine mr_imulN (z := 8 * e0) C0 rfl dX4_orderOf_16 ?_
  refine mr_iaddN (z := 185 + 8 * e0) C0 rfl dX4_orderOf_17 ?_
  skip
  exact mr_iret (v := nI (185 + 8 * e0)) C0 hr hlk hQ hS rfl hM (Nat.le_refl _) (Nat.le_refl _) dX4_orderOf_18
set_option maxHeartbeats 4000000 in
set_option maxRecDepth 100000 in
theorem ctX4_orderOf_d {l : Launch} {D : va_G} {T : Nat → ClassId} {L : List Nat} {A : Nat → Prop} {Sh : hm_S} {I : hm_I} {J : hm_J}  :
    Ct l yX4_orderOf wsX4_orderOf { frames := 0, cells := 0, slots := 0, locals := 0 } 0 0 D T A [.int (-1)] (hm D T L A Sh I J) (some (.int (nI 176))) (hm D T L A Sh I J) := by
  refine Ct.ofW (cc := cX4_orderOf) (maxL := 1) (ret := (some .int)) (by decide) rfl (Nat.le_of_ble_eq_true rfl) ?_
  intro p_ e_ s_ m_ args_ below_ meth_ c_ ls R Qq hR hQ C0 hr hlk hname hM hl
  have hx := C0.1.1
  have hb := C0.1.2.1
  have hS : va_S A s_.heap s_.heap [] := va_S.rf
  have hl : lv_has ls 1 [(0, .int (-1))] := hl
  refine lv_iload_n hx hb dX4_orderOf_0 rfl (lv_at hl 0 rfl) ?_
  refine lv_if_ge (tgt := 10) hx hb dX4_orderOf_1 (by decide) (fun c1 => absurd c1 (by decide)) (fun c1 => ?_)
  refine lv_sipush (v := nI 176) hx hb dX4_orderOf_4 (by decide) ?_
  refine lv_goto (tgt := 18) hx hb dX4_orderOf_7 (by decide) ?_
  skip
  exact mr_iret (v := nI 176) C0 hr hlk hQ hS rfl hM (Nat.le_refl _) (Nat.le_refl _) dX4_orderOf_18
def fX4_isOrder (I : hm_I) (b : Nat) (e0 : Int32) : Bool :=
  fX4_isIn e0 (-1) (I (b + 1) 184)
set_option maxHeartbeats 4000000 in
set_option maxRecDepth 100000 in
theorem ctX4_isOrder {l : Launch} {D : va_G} {T : Nat → ClassId} {L : List Nat} {A : Nat → Prop} {Sh : hm_S} {I : hm_I} {J : hm_J} {b : Nat} (hMo : IsM L Sh b) {e0 : Int32} :
    Ct l yX4_isOrder wsX4_isOrder { frames := 1, cells := 0, slots := 0, locals := 22 } 0 0 D T A [.ref b, .int e0] (hm D T L A Sh I J) (some (.int (bI (fX4_isOrder I b e0)))) (hm D T L A Sh I J) := by
  refine Ct.ofW (cc := cX4_isOrder) (maxL := 2) (ret := (some .boolean)) (by decide) rfl (Nat.le_of_ble_eq_true rfl) ?_
  intro p_ e_ s_ m_ args_ below_ meth_ c_ ls R Qq hR hQ C0 hr hlk hname hM hl
  have hx := C0.1.1
  have hb := C0.1.2.1
  have hS : va_S A s_.heap s_.heap [] := va_S.rf
  have hl : lv_has ls 2 [(0, .ref b), (1, .int e0)] := hl
  refine lv_iload_n hx hb dX4_isOrder_0 rfl (lv_at hl 1 rfl) ?_
  refine lv_iconst (v := (-1)) hx hb dX4_isOrder_1 (by decide) ?_
  refine lv_aload_n hx hb dX4_isOrder_2 rfl (lv_at hl 0 rfl) ?_
  refine mr_getr (r := b + 1) (TT := TX4) (N := 10) C0 uX4_isOrder_X4 hM hMo.1.1 hMo.1.2 rfl 0 (by decide) rfl kX4_isOrder_f7 rfl dX4_isOrder_3 ?_
  refine lv_sipush (v := nI 184) hx hb dX4_isOrder_6 (by decide) ?_
  refine mr_ialdN (v := I (b + 1) 184) C0 hM hMo.2.1.1 hMo.2.1.2 (by decide) (by decide) rfl dX4_isOrder_9 ?_
  refine mr_callS (As := [.int e0, .int (-1), .int (I (b + 1) 184)]) C0 (ctX4_isIn (I := I) (J := J) (v := e0) (lo := (-1)) (up := (I (b + 1) 184)) ) (va_cwS 3 C0.1.2.2.2.2 gX4_isOrder_X4_isIn rfl rfl rfl (by decide +kernel) (by rw [hR]; exact ⟨Nat.le_of_ble_eq_true rfl, Nat.le_of_ble_eq_true rfl⟩)) hM hS rfl rfl rfl hl.1 (Nat.le_of_ble_eq_true rfl) dX4_isOrder_10 (by rw [hR]; exact ⟨Nat.zero_le _, Nat.zero_le _⟩) (fun H locs hM hS => ?_)
  have eF : fX4_isIn e0 (-1) (I (b + 1) 184) = fX4_isOrder I b e0 := rfl
  exact mr_zret (b := fX4_isIn e0 (-1) (I (b + 1) 184)) C0 hr hlk hQ hS (by rw [← eF]) hM (Nat.le_refl _) (Nat.le_refl _) dX4_isOrder_13
def fX4_layAfter (I : hm_I) (b o : Nat) : hm_I :=
  (lp 8 (fun i30 x30 => (lp 8 (fun i38 x38 => if fX4_has (x38 (b + 4) i38) (nI i30) = true then hm_put x38 (b + 4) i38 ((x38 (b + 4) i38) ||| (x38 (b + 4) i30)) else hm_put x38 (b + 4) i38 ((x38 (b + 4) i38) ||| (nI 0))) x30)) (lp 8 (fun i2 x2 => hm_put x2 (b + 4) i2 (x2 (b + 1) (o + i2))) I))
set_option maxHeartbeats 4000000 in
set_option maxRecDepth 100000 in
theorem ctX4_layAfter {l : Launch} {D : va_G} {T : Nat → ClassId} {L : List Nat} {A : Nat → Prop} {Sh : hm_S} {I : hm_I} {J : hm_J} {b : Nat} (hMo : IsM L Sh b) {o : Nat} (ho : o + 8 ≤ 428) :
    Ct l yX4_layAfter wsX4_layAfter { frames := 1, cells := 0, slots := 0, locals := 21 } 0 0 D T A [.ref b, .int (nI o)] (hm D T L A Sh I J) none (hm D T L A Sh (fX4_layAfter I b o) J) := by
  refine Ct.ofW (cc := cX4_layAfter) (maxL := 4) (ret := none) (by decide) rfl (Nat.le_of_ble_eq_true rfl) ?_
  intro p_ e_ s_ m_ args_ below_ meth_ c_ ls R Qq hR hQ C0 hr hlk hname hM hl
  have hx := C0.1.1
  have hb := C0.1.2.1
  have hS : va_S A s_.heap s_.heap [] := va_S.rf
  have hl : lv_has ls 4 [(0, .ref b), (1, .int (nI o))] := hl
  refine lv_iconst (v := nI 0) hx hb dX4_layAfter_0 (by decide) ?_
  refine lv_istore_n (lv' := [(2, .int (nI 0)), (0, .ref b), (1, .int (nI o))]) hx hb dX4_layAfter_1 rfl hl (by decide) rfl (fun ls hl => ?_)
  refine lp_loop (σ := hm_I) (fun i2 x2 => ∀ (H : Heap) (locs : List Loc) (ls : Array Slot), hm D T L A Sh x2 J H → va_S A s_.heap H locs → lv_has ls 4 [(0, .ref b), (1, .int (nI o)), (2, .int (nI i2))] → W p_ l e_ R s_ m_ args_ below_ meth_ c_ H locs 0 0 Qq (F0 m_ 2 ls [])) 8 (fun i2 x2 => hm_put x2 (b + 4) i2 (x2 (b + 1) (o + i2))) I (fun _ _ => True) trivial (fun _ _ _ _ => trivial) (fun i2 x2 hi1 hv2 k3 H locs ls hM hS hl => ?_) (fun hv2 H locs ls hM hS hl => ?_) _ _ _ hM hS (lv_sub hl [1, 2, 0] rfl)
  · have stp4 : ∀ yy_ : hm_I, yy_ = (hm_put x2 (b + 4) i2 (x2 (b + 1) (o + i2))) → ∀ (H : Heap) (locs : List Loc) (ls : Array Slot), hm D T L A Sh yy_ J H → va_S A s_.heap H locs → lv_has ls 4 [(0, .ref b), (1, .int (nI o)), (2, .int (nI (i2 + 1)))] → W p_ l e_ R s_ m_ args_ below_ meth_ c_ H locs 0 0 Qq (F0 m_ 2 ls []) := fun yy_ ey => by rw [ey]; exact k3
    refine lv_iload_n hx hb dX4_layAfter_2 rfl (lv_at hl 2 rfl) ?_
    refine lv_bipush (v := nI 8) hx hb dX4_layAfter_3 (by decide) ?_
    refine mr_geN (x := i2) (y := 8) (tgt := 28) C0 dX4_layAfter_5 (by decide) (by omega) (by omega) (fun c5 => absurd c5 (by omega)) (fun c5 => ?_)
    refine lv_aload_n hx hb dX4_layAfter_8 rfl (lv_at hl 0 rfl) ?_
    refine mr_getr (r := b + 4) (TT := TX4) (N := 10) C0 uX4_layAfter_X4 hM hMo.1.1 hMo.1.2 rfl 5 (by decide) rfl kX4_layAfter_f19 rfl dX4_layAfter_9 ?_
    refine lv_iload_n hx hb dX4_layAfter_12 rfl (lv_at hl 2 rfl) ?_
    refine lv_aload_n hx hb dX4_layAfter_13 rfl (lv_at hl 0 rfl) ?_
    refine mr_getr (r := b + 1) (TT := TX4) (N := 10) C0 uX4_layAfter_X4 hM hMo.1.1 hMo.1.2 rfl 0 (by decide) rfl kX4_layAfter_f7 rfl dX4_layAfter_14 ?_
    refine lv_iload_n hx hb dX4_layAfter_17 rfl (lv_at hl 1 rfl) ?_
    refine lv_iload_n hx hb dX4_layAfter_18 rfl (lv_at hl 2 rfl) ?_
    refine mr_iaddN (z := o + i2) C0 rfl dX4_layAfter_19 ?_
    refine mr_ialdN (v := x2 (b + 1) (o + i2)) C0 hM hMo.2.1.1 hMo.2.1.2 (by decide) (by omega) rfl dX4_layAfter_20 ?_
    refine mr_iastN C0 hM hS hMo.2.2.2.2.1.1 hMo.2.2.2.2.1.2 (by decide) (by omega) dX4_layAfter_21 (fun H locs hM hS => ?_)
    refine lv_iinc (v := nI (i2 + 1)) (lv' := [(2, .int (nI (i2 + 1))), (0, .ref b), (1, .int (nI o))]) hx hb dX4_layAfter_22 hl (k := 2) rfl (nI_1 _) (by decide) rfl (fun ls hl => ?_)
    refine lv_goto (tgt := 2) hx hb dX4_layAfter_25 (by decide) ?_
    exact stp4 (hm_put x2 (b + 4) i2 (x2 (b + 1) (o + i2))) rfl H locs ls hM hS (lv_sub hl [1, 2, 0] rfl)
  · skip
    refine lv_iload_n hx hb dX4_layAfter_2 rfl (lv_at hl 2 rfl) ?_
    refine lv_bipush (v := nI 8) hx hb dX4_layAfter_3 (by decide) ?_
    refine mr_geN (x := 8) (y := 8) (tgt := 28) C0 dX4_layAfter_5 (by decide) (by decide) (by decide) (fun _ => ?_) (fun c6 => absurd c6 (by decide))
    refine lv_iconst (v := nI 0) hx hb dX4_layAfter_28 (by decide) ?_
    refine lv_istore_n (lv' := [(2, .int (nI 0)), (0, .ref b), (1, .int (nI o))]) hx hb dX4_layAfter_29 rfl hl (by decide) rfl (fun ls hl => ?_)
    refine lp_loop (σ := hm_I) (fun i30 x30 => ∀ (H : Heap) (locs : List Loc) (ls : Array Slot), hm D T L A Sh x30 J H → va_S A s_.heap H locs → lv_has ls 4 [(0, .ref b), (2, .int (nI i30))] → W p_ l e_ R s_ m_ args_ below_ meth_ c_ H locs 0 0 Qq (F0 m_ 30 ls [])) 8 (fun i30 x30 => (lp 8 (fun i38 x38 => if fX4_has (x38 (b + 4) i38) (nI i30) = true then hm_put x38 (b + 4) i38 ((x38 (b + 4) i38) ||| (x38 (b + 4) i30)) else hm_put x38 (b + 4) i38 ((x38 (b + 4) i38) ||| (nI 0))) x30)) (lp 8 (fun i2 x2 => hm_put x2 (b + 4) i2 (x2 (b + 1) (o + i2))) I) (fun _ _ => True) trivial (fun _ _ _ _ => trivial) (fun i30 x30 hi7 hv8 k9 H locs ls hM hS hl => ?_) (fun hv8 H locs ls hM hS hl => ?_) _ _ _ hM hS (lv_sub hl [1, 0] rfl)
    · have stp10 : ∀ yy_ : hm_I, yy_ = ((lp 8 (fun i38 x38 => if fX4_has (x38 (b + 4) i38) (nI i30) = true then hm_put x38 (b + 4) i38 ((x38 (b + 4) i38) ||| (x38 (b + 4) i30)) else hm_put x38 (b + 4) i38 ((x38 (b + 4) i38) ||| (nI 0))) x30)) → ∀ (H : Heap) (locs : List Loc) (ls : Array Slot), hm D T L A Sh yy_ J H → va_S A s_.heap H locs → lv_has ls 4 [(0, .ref b), (2, .int (nI (i30 + 1)))] → W p_ l e_ R s_ m_ args_ below_ meth_ c_ H locs 0 0 Qq (F0 m_ 30 ls []) := fun yy_ ey => by rw [ey]; exact k9
      refine lv_iload_n hx hb dX4_layAfter_30 rfl (lv_at hl 1 rfl) ?_
      refine lv_bipush (v := nI 8) hx hb dX4_layAfter_31 (by decide) ?_
      refine mr_geN (x := i30) (y := 8) (tgt := 88) C0 dX4_layAfter_33 (by decide) (by omega) (by omega) (fun c11 => absurd c11 (by omega)) (fun c11 => ?_)
      refine lv_iconst (v := nI 0) hx hb dX4_layAfter_36 (by decide) ?_
      refine lv_istore_n (lv' := [(3, .int (nI 0)), (0, .ref b), (2, .int (nI i30))]) hx hb dX4_layAfter_37 rfl hl (by decide) rfl (fun ls hl => ?_)
      refine lp_loop (σ := hm_I) (fun i38 x38 => ∀ (H : Heap) (locs : List Loc) (ls : Array Slot), hm D T L A Sh x38 J H → va_S A s_.heap H locs → lv_has ls 4 [(0, .ref b), (2, .int (nI i30)), (3, .int (nI i38))] → W p_ l e_ R s_ m_ args_ below_ meth_ c_ H locs 0 0 Qq (F0 m_ 38 ls [])) 8 (fun i38 x38 => if fX4_has (x38 (b + 4) i38) (nI i30) = true then hm_put x38 (b + 4) i38 ((x38 (b + 4) i38) ||| (x38 (b + 4) i30)) else hm_put x38 (b + 4) i38 ((x38 (b + 4) i38) ||| (nI 0))) x30 (fun _ _ => True) trivial (fun _ _ _ _ => trivial) (fun i38 x38 hi12 hv13 k14 H locs ls hM hS hl => ?_) (fun hv13 H locs ls hM hS hl => ?_) _ _ _ hM hS (lv_sub hl [1, 2, 0] rfl)
      · have stp15 : ∀ yy_ : hm_I, yy_ = (if fX4_has (x38 (b + 4) i38) (nI i30) = true then hm_put x38 (b + 4) i38 ((x38 (b + 4) i38) ||| (x38 (b + 4) i30)) else hm_put x38 (b + 4) i38 ((x38 (b + 4) i38) ||| (nI 0))) → ∀ (H : Heap) (locs : List Loc) (ls : Array Slot), hm D T L A Sh yy_ J H → va_S A s_.heap H locs → lv_has ls 4 [(0, .ref b), (2, .int (nI i30)), (3, .int (nI (i38 + 1)))] → W p_ l e_ R s_ m_ args_ below_ meth_ c_ H locs 0 0 Qq (F0 m_ 38 ls []) := fun yy_ ey => by rw [ey]; exact k14
        refine lv_iload_n hx hb dX4_layAfter_38 rfl (lv_at hl 2 rfl) ?_
        refine lv_bipush (v := nI 8) hx hb dX4_layAfter_39 (by decide) ?_
        refine mr_geN (x := i38) (y := 8) (tgt := 82) C0 dX4_layAfter_41 (by decide) (by omega) (by omega) (fun c16 => absurd c16 (by omega)) (fun c16 => ?_)
        refine lv_aload_n hx hb dX4_layAfter_44 rfl (lv_at hl 0 rfl) ?_
        refine mr_getr (r := b + 4) (TT := TX4) (N := 10) C0 uX4_layAfter_X4 hM hMo.1.1 hMo.1.2 rfl 5 (by decide) rfl kX4_layAfter_f19 rfl dX4_layAfter_45 ?_
        refine lv_iload_n hx hb dX4_layAfter_48 rfl (lv_at hl 2 rfl) ?_
        refine lv_dup2_11 hx hb dX4_layAfter_49 rfl rfl ?_
        refine mr_ialdN (v := x38 (b + 4) i38) C0 hM hMo.2.2.2.2.1.1 hMo.2.2.2.2.1.2 (by decide) (by omega) rfl dX4_layAfter_50 ?_
        refine lv_aload_n hx hb dX4_layAfter_51 rfl (lv_at hl 0 rfl) ?_
        refine mr_getr (r := b + 4) (TT := TX4) (N := 10) C0 uX4_layAfter_X4 hM hMo.1.1 hMo.1.2 rfl 5 (by decide) rfl kX4_layAfter_f19 rfl dX4_layAfter_52 ?_
        refine lv_iload_n hx hb dX4_layAfter_55 rfl (lv_at hl 2 rfl) ?_
        refine mr_ialdN (v := x38 (b + 4) i38) C0 hM hMo.2.2.2.2.1.1 hMo.2.2.2.2.1.2 (by decide) (by omega) rfl dX4_layAfter_56 ?_
        refine lv_iload_n hx hb dX4_layAfter_57 rfl (lv_at hl 1 rfl) ?_
        refine mr_callS (As := [.int (x38 (b + 4) i38), .int (nI i30)]) C0 (ctX4_has (I := x38) (J := J) (u := (x38 (b + 4) i38)) (s0 := (nI i30)) ) (va_cwS 2 C0.1.2.2.2.2 gX4_layAfter_X4_has rfl rfl rfl (by decide +kernel) (by rw [hR]; exact ⟨Nat.le_of_ble_eq_true rfl, Nat.le_of_ble_eq_true rfl⟩)) hM hS rfl rfl rfl hl.1 (Nat.le_of_ble_eq_true rfl) dX4_layAfter_58 (by rw [hR]; exact ⟨Nat.zero_le _, Nat.zero_le _⟩) (fun H locs hM hS => ?_)
        refine mr_eqB (tgt := 73) C0 dX4_layAfter_61 (by decide) (fun c17 => ?_) (fun c17 => ?_)
        · skip
          refine lv_iconst (v := nI 0) hx hb dX4_layAfter_73 (by decide) ?_
          refine lv_ior hx hb dX4_layAfter_74 ?_
          refine mr_iastN C0 hM hS hMo.2.2.2.2.1.1 hMo.2.2.2.2.1.2 (by decide) (by omega) dX4_layAfter_75 (fun H locs hM hS => ?_)
          refine lv_iinc (v := nI (i38 + 1)) (lv' := [(3, .int (nI (i38 + 1))), (0, .ref b), (2, .int (nI i30))]) hx hb dX4_layAfter_76 hl (k := 2) rfl (nI_1 _) (by decide) rfl (fun ls hl => ?_)
          refine lv_goto (tgt := 38) hx hb dX4_layAfter_79 (by decide) ?_
          exact stp15 (hm_put x38 (b + 4) i38 ((x38 (b + 4) i38) ||| (nI 0))) (by rw [if_neg (Bool.eq_false_iff.mp c17)]) H locs ls hM hS (lv_sub hl [1, 2, 0] rfl)
        · skip
          refine lv_aload_n hx hb dX4_layAfter_64 rfl (lv_at hl 0 rfl) ?_
          refine mr_getr (r := b + 4) (TT := TX4) (N := 10) C0 uX4_layAfter_X4 hM hMo.1.1 hMo.1.2 rfl 5 (by decide) rfl kX4_layAfter_f19 rfl dX4_layAfter_65 ?_
          refine lv_iload_n hx hb dX4_layAfter_68 rfl (lv_at hl 1 rfl) ?_
          refine mr_ialdN (v := x38 (b + 4) i30) C0 hM hMo.2.2.2.2.1.1 hMo.2.2.2.2.1.2 (by decide) (by omega) rfl dX4_layAfter_69 ?_
          refine lv_goto (tgt := 74) hx hb dX4_layAfter_70 (by decide) ?_
          refine lv_ior hx hb dX4_layAfter_74 ?_
          refine mr_iastN C0 hM hS hMo.2.2.2.2.1.1 hMo.2.2.2.2.1.2 (by decide) (by omega) dX4_layAfter_75 (fun H locs hM hS => ?_)
          refine lv_iinc (v := nI (i38 + 1)) (lv' := [(3, .int (nI (i38 + 1))), (0, .ref b), (2, .int (nI i30))]) hx hb dX4_layAfter_76 hl (k := 2) rfl (nI_1 _) (by decide) rfl (fun ls hl => ?_)
          refine lv_goto (tgt := 38) hx hb dX4_layAfter_79 (by decide) ?_
          exact stp15 (hm_put x38 (b + 4) i38 ((x38 (b + 4) i38) ||| (x38 (b + 4) i30))) (by rw [if_pos c17]) H locs ls hM hS (lv_sub hl [1, 2, 0] rfl)
      · skip
        refine lv_iload_n hx hb dX4_layAfter_38 rfl (lv_at hl 2 rfl) ?_
        refine lv_bipush (v := nI 8) hx hb dX4_layAfter_39 (by decide) ?_
        refine mr_geN (x := 8) (y := 8) (tgt := 82) C0 dX4_layAfter_41 (by decide) (by decide) (by decide) (fun _ => ?_) (fun c18 => absurd c18 (by decide))
        refine lv_iinc (v := nI (i30 + 1)) (lv' := [(2, .int (nI (i30 + 1))), (0, .ref b), (3, .int (nI 8))]) hx hb dX4_layAfter_82 hl (k := 1) rfl (nI_1 _) (by decide) rfl (fun ls hl => ?_)
        refine lv_goto (tgt := 30) hx hb dX4_layAfter_85 (by decide) ?_
        exact stp10 (lp 8 (fun i38 x38 => if fX4_has (x38 (b + 4) i38) (nI i30) = true then hm_put x38 (b + 4) i38 ((x38 (b + 4) i38) ||| (x38 (b + 4) i30)) else hm_put x38 (b + 4) i38 ((x38 (b + 4) i38) ||| (nI 0))) x30) rfl H locs ls hM hS (lv_sub hl [1, 0] rfl)
    · skip
      refine lv_iload_n hx hb dX4_layAfter_30 rfl (lv_at hl 1 rfl) ?_
      refine lv_bipush (v := nI 8) hx hb dX4_layAfter_31 (by decide) ?_
      refine mr_geN (x := 8) (y := 8) (tgt := 88) C0 dX4_layAfter_33 (by decide) (by decide) (by decide) (fun _ => ?_) (fun c19 => absurd c19 (by decide))
      have eF : (lp 8 (fun i30 x30 => (lp 8 (fun i38 x38 => if fX4_has (x38 (b + 4) i38) (nI i30) = true then hm_put x38 (b + 4) i38 ((x38 (b + 4) i38) ||| (x38 (b + 4) i30)) else hm_put x38 (b + 4) i38 ((x38 (b + 4) i38) ||| (nI 0))) x30)) (lp 8 (fun i2 x2 => hm_put x2 (b + 4) i2 (x2 (b + 1) (o + i2))) I)) = fX4_layAfter I b o := rfl
      exact mr_vret C0 hr hlk hQ hS rfl (by rw [← eF]; exact hM) (Nat.le_refl _) (Nat.le_refl _) dX4_layAfter_88
theorem fX4_layAfter_ne {I : hm_I} {b o x0 : Nat} (h : x0 ≠ b + 4) : fX4_layAfter I b o x0 = I x0 := by
  unfold fX4_layAfter
  refine lp_inv (fun _ (x : hm_I) => x x0 = I x0) ?_ (fun i x _ hx => ?_)
  · exact lp_inv (fun _ (x : hm_I) => x x0 = I x0) rfl (fun i x _ hx => by rw [hm_put_ne _ _ _ _ h]; exact hx)
  · refine lp_inv (fun _ (y : hm_I) => y x0 = I x0) hx (fun j y _ hy => ?_)
    split <;> (rw [hm_put_ne _ _ _ _ h]; exact hy)
def fX4_size (u : Int32) : Int32 :=
  (lp 8 (fun i4 x4 => x4 + ((u >>> ((nI i4) &&& 31)) &&& (nI 1))) (nI 0))
set_option maxHeartbeats 4000000 in
set_option maxRecDepth 100000 in
theorem ctX4_size {l : Launch} {D : va_G} {T : Nat → ClassId} {L : List Nat} {A : Nat → Prop} {Sh : hm_S} {I : hm_I} {J : hm_J} {u : Int32} :
    Ct l yX4_size wsX4_size { frames := 0, cells := 0, slots := 0, locals := 0 } 0 0 D T A [.int u] (hm D T L A Sh I J) (some (.int (fX4_size u))) (hm D T L A Sh I J) := by
  refine Ct.ofW (cc := cX4_size) (maxL := 3) (ret := (some .int)) (by decide) rfl (Nat.le_of_ble_eq_true rfl) ?_
  intro p_ e_ s_ m_ args_ below_ meth_ c_ ls R Qq hR hQ C0 hr hlk hname hM hl
  have hx := C0.1.1
  have hb := C0.1.2.1
  have hS : va_S A s_.heap s_.heap [] := va_S.rf
  have hl : lv_has ls 3 [(0, .int u)] := hl
  refine lv_iconst (v := nI 0) hx hb dX4_size_0 (by decide) ?_
  refine lv_istore_n (lv' := [(1, .int (nI 0)), (0, .int u)]) hx hb dX4_size_1 rfl hl (by decide) rfl (fun ls hl => ?_)
  refine lv_iconst (v := nI 0) hx hb dX4_size_2 (by decide) ?_
  refine lv_istore_n (lv' := [(2, .int (nI 0)), (1, .int (nI 0)), (0, .int u)]) hx hb dX4_size_3 rfl hl (by decide) rfl (fun ls hl => ?_)
  refine lp_loop (σ := Int32) (fun i4 x4 => ∀ (H : Heap) (locs : List Loc) (ls : Array Slot), hm D T L A Sh I J H → va_S A s_.heap H locs → lv_has ls 3 [(0, .int u), (1, .int x4), (2, .int (nI i4))] → W p_ l e_ R s_ m_ args_ below_ meth_ c_ H locs 0 0 Qq (F0 m_ 4 ls [])) 8 (fun i4 x4 => x4 + ((u >>> ((nI i4) &&& 31)) &&& (nI 1))) (nI 0) (fun _ _ => True) trivial (fun _ _ _ _ => trivial) (fun i4 x4 hi1 hv2 k3 H locs ls hM hS hl => ?_) (fun hv2 H locs ls hM hS hl => ?_) _ _ _ hM hS (lv_sub hl [2, 1, 0] rfl)
  · have stp4 : ∀ yy_ : Int32, yy_ = (x4 + ((u >>> ((nI i4) &&& 31)) &&& (nI 1))) → ∀ (H : Heap) (locs : List Loc) (ls : Array Slot), hm D T L A Sh I J H → va_S A s_.heap H locs → lv_has ls 3 [(0, .int u), (1, .int yy_), (2, .int (nI (i4 + 1)))] → W p_ l e_ R s_ m_ args_ below_ meth_ c_ H locs 0 0 Qq (F0 m_ 4 ls []) := fun yy_ ey => by rw [ey]; exact k3
    refine lv_iload_n hx hb dX4_size_4 rfl (lv_at hl 2 rfl) ?_
    refine lv_bipush (v := nI 8) hx hb dX4_size_5 (by decide) ?_
    refine mr_geN (x := i4) (y := 8) (tgt := 24) C0 dX4_size_7 (by decide) (by omega) (by omega) (fun c5 => absurd c5 (by omega)) (fun c5 => ?_)
    refine lv_iload_n hx hb dX4_size_10 rfl (lv_at hl 1 rfl) ?_
    refine lv_iload_n hx hb dX4_size_11 rfl (lv_at hl 0 rfl) ?_
    refine lv_iload_n hx hb dX4_size_12 rfl (lv_at hl 2 rfl) ?_
    refine lv_ishr hx hb dX4_size_13 ?_
    refine lv_iconst (v := nI 1) hx hb dX4_size_14 (by decide) ?_
    refine lv_iand hx hb dX4_size_15 ?_
    refine lv_iadd hx hb dX4_size_16 ?_
    refine lv_istore_n (lv' := [(1, .int (x4 + ((u >>> ((nI i4) &&& 31)) &&& (nI 1)))), (0, .int u), (2, .int (nI i4))]) hx hb dX4_size_17 rfl hl (by decide) rfl (fun ls hl => ?_)
    refine lv_iinc (v := nI (i4 + 1)) (lv' := [(2, .int (nI (i4 + 1))), (1, .int (x4 + ((u >>> ((nI i4) &&& 31)) &&& (nI 1)))), (0, .int u)]) hx hb dX4_size_18 hl (k := 2) rfl (nI_1 _) (by decide) rfl (fun ls hl => ?_)
    refine lv_goto (tgt := 4) hx hb dX4_size_21 (by decide) ?_
    exact stp4 (x4 + ((u >>> ((nI i4) &&& 31)) &&& (nI 1))) rfl H locs ls hM hS (lv_sub hl [2, 1, 0] rfl)
  · skip
    refine lv_iload_n hx hb dX4_size_4 rfl (lv_at hl 2 rfl) ?_
    refine lv_bipush (v := nI 8) hx hb dX4_size_5 (by decide) ?_
    refine mr_geN (x := 8) (y := 8) (tgt := 24) C0 dX4_size_7 (by decide) (by decide) (by decide) (fun _ => ?_) (fun c6 => absurd c6 (by decide))
    refine lv_iload_n hx hb dX4_size_24 rfl (lv_at hl 1 rfl) ?_
    have eF : (lp 8 (fun i4 x4 => x4 + ((u >>> ((nI i4) &&& 31)) &&& (nI 1))) (nI 0)) = fX4_size u := rfl
    exact mr_iret (v := (lp 8 (fun i4 x4 => x4 + ((u >>> ((nI i4) &&& 31)) &&& (nI 1))) (nI 0))) C0 hr hlk hQ hS (by rw [← eF]) hM (Nat.le_refl _) (Nat.le_refl _) dX4_size_25
def fX4_edges (I : hm_I) (b o : Nat) : Int32 :=
  (lp 8 (fun i4 x4 => x4 + (fX4_size (I (b + 1) (o + i4)))) (nI 0))
set_option maxHeartbeats 4000000 in
set_option maxRecDepth 100000 in
theorem ctX4_edges {l : Launch} {D : va_G} {T : Nat → ClassId} {L : List Nat} {A : Nat → Prop} {Sh : hm_S} {I : hm_I} {J : hm_J} {b : Nat} (hMo : IsM L Sh b) {o : Nat} (ho : o + 8 ≤ 428) :
    Ct l yX4_edges wsX4_edges { frames := 1, cells := 0, slots := 0, locals := 22 } 0 0 D T A [.ref b, .int (nI o)] (hm D T L A Sh I J) (some (.int (fX4_edges I b o))) (hm D T L A Sh I J) := by
  refine Ct.ofW (cc := cX4_edges) (maxL := 4) (ret := (some .int)) (by decide) rfl (Nat.le_of_ble_eq_true rfl) ?_
  intro p_ e_ s_ m_ args_ below_ meth_ c_ ls R Qq hR hQ C0 hr hlk hname hM hl
  have hx := C0.1.1
  have hb := C0.1.2.1
  have hS : va_S A s_.heap s_.heap [] := va_S.rf
  have hl : lv_has ls 4 [(0, .ref b), (1, .int (nI o))] := hl
  refine lv_iconst (v := nI 0) hx hb dX4_edges_0 (by decide) ?_
  refine lv_istore_n (lv' := [(2, .int (nI 0)), (0, .ref b), (1, .int (nI o))]) hx hb dX4_edges_1 rfl hl (by decide) rfl (fun ls hl => ?_)
  refine lv_iconst (v := nI 0) hx hb dX4_edges_2 (by decide) ?_
  refine lv_istore_n (lv' := [(3, .int (nI 0)), (2, .int (nI 0)), (0, .ref b), (1, .int (nI o))]) hx hb dX4_edges_3 rfl hl (by decide) rfl (fun ls hl => ?_)
  refine lp_loop (σ := Int32) (fun i4 x4 => ∀ (H : Heap) (locs : List Loc) (ls : Array Slot), hm D T L A Sh I J H → va_S A s_.heap H locs → lv_has ls 4 [(0, .ref b), (1, .int (nI o)), (2, .int x4), (3, .int (nI i4))] → W p_ l e_ R s_ m_ args_ below_ meth_ c_ H locs 0 0 Qq (F0 m_ 4 ls [])) 8 (fun i4 x4 => x4 + (fX4_size (I (b + 1) (o + i4)))) (nI 0) (fun _ _ => True) trivial (fun _ _ _ _ => trivial) (fun i4 x4 hi1 hv2 k3 H locs ls hM hS hl => ?_) (fun hv2 H locs ls hM hS hl => ?_) _ _ _ hM hS (lv_sub hl [2, 3, 1, 0] rfl)
  · have stp4 : ∀ yy_ : Int32, yy_ = (x4 + (fX4_size (I (b + 1) (o + i4)))) → ∀ (H : Heap) (locs : List Loc) (ls : Array Slot), hm D T L A Sh I J H → va_S A s_.heap H locs → lv_has ls 4 [(0, .ref b), (1, .int (nI o)), (2, .int yy_), (3, .int (nI (i4 + 1)))] → W p_ l e_ R s_ m_ args_ below_ meth_ c_ H locs 0 0 Qq (F0 m_ 4 ls []) := fun yy_ ey => by rw [ey]; exact k3
    refine lv_iload_n hx hb dX4_edges_4 rfl (lv_at hl 3 rfl) ?_
    refine lv_bipush (v := nI 8) hx hb dX4_edges_5 (by decide) ?_
    refine mr_geN (x := i4) (y := 8) (tgt := 30) C0 dX4_edges_7 (by decide) (by omega) (by omega) (fun c5 => absurd c5 (by omega)) (fun c5 => ?_)
    refine lv_iload_n hx hb dX4_edges_10 rfl (lv_at hl 2 rfl) ?_
    refine lv_aload_n hx hb dX4_edges_11 rfl (lv_at hl 0 rfl) ?_
    refine mr_getr (r := b + 1) (TT := TX4) (N := 10) C0 uX4_edges_X4 hM hMo.1.1 hMo.1.2 rfl 0 (by decide) rfl kX4_edges_f7 rfl dX4_edges_12 ?_
    refine lv_iload_n hx hb dX4_edges_15 rfl (lv_at hl 1 rfl) ?_
    refine lv_iload_n hx hb dX4_edges_16 rfl (lv_at hl 3 rfl) ?_
    refine mr_iaddN (z := o + i4) C0 rfl dX4_edges_17 ?_
    refine mr_ialdN (v := I (b + 1) (o + i4)) C0 hM hMo.2.1.1 hMo.2.1.2 (by decide) (by omega) rfl dX4_edges_18 ?_
    refine mr_callS (As := [.int (I (b + 1) (o + i4))]) C0 (ctX4_size (I := I) (J := J) (u := (I (b + 1) (o + i4))) ) (va_cwS 1 C0.1.2.2.2.2 gX4_edges_X4_size rfl rfl rfl (by decide +kernel) (by rw [hR]; exact ⟨Nat.le_of_ble_eq_true rfl, Nat.le_of_ble_eq_true rfl⟩)) hM hS rfl rfl rfl hl.1 (Nat.le_of_ble_eq_true rfl) dX4_edges_19 (by rw [hR]; exact ⟨Nat.zero_le _, Nat.zero_le _⟩) (fun H locs hM hS => ?_)
    refine lv_iadd hx hb dX4_edges_22 ?_
    refine lv_istore_n (lv' := [(2, .int (x4 + (fX4_size (I (b + 1) (o + i4))))), (0, .ref b), (1, .int (nI o)), (3, .int (nI i4))]) hx hb dX4_edges_23 rfl hl (by decide) rfl (fun ls hl => ?_)
    refine lv_iinc (v := nI (i4 + 1)) (lv' := [(3, .int (nI (i4 + 1))), (2, .int (x4 + (fX4_size (I (b + 1) (o + i4))))), (0, .ref b), (1, .int (nI o))]) hx hb dX4_edges_24 hl (k := 3) rfl (nI_1 _) (by decide) rfl (fun ls hl => ?_)
    refine lv_goto (tgt := 4) hx hb dX4_edges_27 (by decide) ?_
    exact stp4 (x4 + (fX4_size (I (b + 1) (o + i4)))) rfl H locs ls hM hS (lv_sub hl [2, 3, 1, 0] rfl)
  · skip
    refine lv_iload_n hx hb dX4_edges_4 rfl (lv_at hl 3 rfl) ?_
    refine lv_bipush (v := nI 8) hx hb dX4_edges_5 (by decide) ?_
    refine mr_geN (x := 8) (y := 8) (tgt := 30) C0 dX4_edges_7 (by decide) (by decide) (by decide) (fun _ => ?_) (fun c6 => absurd c6 (by decide))
    refine lv_iload_n hx hb dX4_edges_30 rfl (lv_at hl 2 rfl) ?_
    have eF : (lp 8 (fun i4 x4 => x4 + (fX4_size (I (b + 1) (o + i4)))) (nI 0)) = fX4_edges I b o := rfl
    exact mr_iret (v := (lp 8 (fun i4 x4 => x4 + (fX4_size (I (b + 1) (o + i4)))) (nI 0))) C0 hr hlk hQ hS (by rw [← eF]) hM (Nat.le_refl _) (Nat.le_refl _) dX4_edges_31
def fX4_blocking_t (I : hm_I) (b : Nat) (c : Nat → Nat) (e : Nat → Nat → Nat) (s0 : Nat) : Int32 × hm_I :=
  ((lp 8 (fun i21 x21 => lpr (fun (i31 : Nat) (x31 : Int32) => (if i21 = s0 then Sum.inl x31 else if fX4_has ((fX4_layAfter I b (185 + 8 * (e s0 0))) (b + 4) i21) (nI s0) = true then if nI (e s0 0) < (fX4_layAfter I b (185 + 8 * (e s0 0))) (b + 1) (32 + 18 * i21 + 3 * i31 + 2) then Sum.inr (x31 + (nI 0)) else Sum.inr (x31 + (nI 1)) else Sum.inl x31 : Int32 ⊕ (Int32))) (fun (x31 : Int32) => (x31 : Int32)) (c i21) 0 x21) (nI 0)), fX4_layAfter I b (185 + 8 * (e s0 0)))
set_option maxHeartbeats 4000000 in
set_option maxRecDepth 100000 in
theorem ctX4_blocking_t {l : Launch} {D : va_G} {T : Nat → ClassId} {L : List Nat} {A : Nat → Prop} {Sh : hm_S} {I : hm_I} {J : hm_J} {b : Nat} (hMo : IsM L Sh b) {c : Nat → Nat} {e : Nat → Nat → Nat} {ep lg : Nat} (hWm : WfM (I (b + 1)) c e ep lg) {s0 : Nat} (hs0 : s0 < 8) (hc0 : 0 < c s0) :
    Ct l yX4_blocking wsX4_blocking { frames := 2, cells := 0, slots := 0, locals := 44 } 0 0 D T A [.ref b, .int (nI s0)] (hm D T L A Sh I J) (some (.int ((fX4_blocking_t I b c e s0).1))) (hm D T L A Sh ((fX4_blocking_t I b c e s0).2) J) := by
  refine Ct.ofW (cc := cX4_blocking) (maxL := 6) (ret := (some .int)) (by decide) rfl (Nat.le_of_ble_eq_true rfl) ?_
  intro p_ e_ s_ m_ args_ below_ meth_ c_ ls R Qq hR hQ C0 hr hlk hname hM hl
  have hx := C0.1.1
  have hb := C0.1.2.1
  have hS : va_S A s_.heap s_.heap [] := va_S.rf
  have hl : lv_has ls 6 [(0, .ref b), (1, .int (nI s0))] := hl
  refine lv_aload_n hx hb dX4_blocking_0 rfl (lv_at hl 0 rfl) ?_
  refine lv_iload_n hx hb dX4_blocking_1 rfl (lv_at hl 1 rfl) ?_
  refine lv_iconst (v := nI 0) hx hb dX4_blocking_2 (by decide) ?_
  refine lv_iconst (v := nI 2) hx hb dX4_blocking_3 (by decide) ?_
  refine mr_callV (As := [.int (nI s0), .int (nI 0), .int (nI 2)]) C0 (ctX4_frameAt_t (I := I) (J := J) (b := b) (s0 := s0) (k0 := 0) (w0 := 2) hMo (by omega)) (cwV 3 C0.1.2.2.2.2 gX4_blocking_X4_frameAt rfl rfl rfl (by decide +kernel) (by rw [hR]; exact ⟨Nat.le_of_ble_eq_true rfl, Nat.le_of_ble_eq_true rfl⟩)) hM hMo.1.1 hMo.1.2 rfl rfl hM hS rfl rfl rfl hl.1 (Nat.le_of_ble_eq_true rfl) dX4_blocking_4 (by rw [hR]; exact ⟨Nat.zero_le _, Nat.zero_le _⟩) (fun H locs hM hS => ?_)
  have hw1 := hWm.2.1 s0 (by omega) 0 (by omega)
  have hw1b := hw1.2
  have hw1c := hWm.2.2.2.1
  refine mr_top (y := nI (e s0 0)) hw1.1 ?_
  refine lv_istore_n (lv' := [(2, .int (nI (e s0 0))), (0, .ref b), (1, .int (nI s0))]) hx hb dX4_blocking_7 rfl hl (by decide) rfl (fun ls hl => ?_)
  refine lv_aload_n hx hb dX4_blocking_8 rfl (lv_at hl 1 rfl) ?_
  refine lv_iload_n hx hb dX4_blocking_9 rfl (lv_at hl 0 rfl) ?_
  refine mr_callS (As := [.int (nI (e s0 0))]) C0 (ctX4_orderOf_t (I := I) (J := J) (e0 := (e s0 0)) (by omega)) (va_cwS 1 C0.1.2.2.2.2 gX4_blocking_X4_orderOf rfl rfl rfl (by decide +kernel) (by rw [hR]; exact ⟨Nat.le_of_ble_eq_true rfl, Nat.le_of_ble_eq_true rfl⟩)) hM hS rfl rfl rfl hl.1 (Nat.le_of_ble_eq_true rfl) dX4_blocking_10 (by rw [hR]; exact ⟨Nat.zero_le _, Nat.zero_le _⟩) (fun H locs hM hS => ?_)
  refine mr_callV (As := [.int (nI (185 + 8 * (e s0 0)))]) C0 (ctX4_layAfter (I := I) (J := J) (b := b) (o := (185 + 8 * (e s0 0))) hMo (by omega)) (cwV 1 C0.1.2.2.2.2 gX4_blocking_X4_layAfter rfl rfl rfl (by decide +kernel) (by rw [hR]; exact ⟨Nat.le_of_ble_eq_true rfl, Nat.le_of_ble_eq_true rfl⟩)) hM hMo.1.1 hMo.1.2 rfl rfl hM hS rfl rfl rfl hl.1 (Nat.le_of_ble_eq_true rfl) dX4_blocking_13 (by rw [hR]; exact ⟨Nat.zero_le _, Nat.zero_le _⟩) (fun H locs hM hS => ?_)
  refine lv_iconst (v := nI 0) hx hb dX4_blocking_16 (by decide) ?_
  refine lv_istore_n (lv' := [(3, .int (nI 0)), (2, .int (nI (e s0 0))), (0, .ref b), (1, .int (nI s0))]) hx hb dX4_blocking_17 rfl hl (by decide) rfl (fun ls hl => ?_)
  refine lv_iconst (v := nI 0) hx hb dX4_blocking_18 (by decide) ?_
  refine lv_istore (lv' := [(4, .int (nI 0)), (3, .int (nI 0)), (2, .int (nI (e s0 0))), (0, .ref b), (1, .int (nI s0))]) hx hb dX4_blocking_19 hl (by decide) rfl (fun ls hl => ?_)
  refine lp_loop (σ := Int32) (fun i21 x21 => ∀ (H : Heap) (locs : List Loc) (ls : Array Slot), hm D T L A Sh (fX4_layAfter I b (185 + 8 * (e s0 0))) J H → va_S A s_.heap H locs → lv_has ls 6 [(0, .ref b), (1, .int (nI s0)), (2, .int (nI (e s0 0))), (3, .int x21), (4, .int (nI i21))] → W p_ l e_ R s_ m_ args_ below_ meth_ c_ H locs 0 0 Qq (F0 m_ 21 ls [])) 8 (fun i21 x21 => lpr (fun (i31 : Nat) (x31 : Int32) => (if i21 = s0 then Sum.inl x31 else if fX4_has ((fX4_layAfter I b (185 + 8 * (e s0 0))) (b + 4) i21) (nI s0) = true then if nI (e s0 0) < (fX4_layAfter I b (185 + 8 * (e s0 0))) (b + 1) (32 + 18 * i21 + 3 * i31 + 2) then Sum.inr (x31 + (nI 0)) else Sum.inr (x31 + (nI 1)) else Sum.inl x31 : Int32 ⊕ (Int32))) (fun (x31 : Int32) => (x31 : Int32)) (c i21) 0 x21) (nI 0) (fun _ _ => True) trivial (fun _ _ _ _ => trivial) (fun i21 x21 hi2 hv3 k4 H locs ls hM hS hl => ?_) (fun hv3 H locs ls hM hS hl => ?_) _ _ _ hM hS (lv_sub hl [3, 4, 2, 1, 0] rfl)
  · have stp5 : ∀ yy_ : Int32, yy_ = (lpr (fun (i31 : Nat) (x31 : Int32) => (if i21 = s0 then Sum.inl x31 else if fX4_has ((fX4_layAfter I b (185 + 8 * (e s0 0))) (b + 4) i21) (nI s0) = true then if nI (e s0 0) < (fX4_layAfter I b (185 + 8 * (e s0 0))) (b + 1) (32 + 18 * i21 + 3 * i31 + 2) then Sum.inr (x31 + (nI 0)) else Sum.inr (x31 + (nI 1)) else Sum.inl x31 : Int32 ⊕ (Int32))) (fun (x31 : Int32) => (x31 : Int32)) (c i21) 0 x21) → ∀ (H : Heap) (locs : List Loc) (ls : Array Slot), hm D T L A Sh (fX4_layAfter I b (185 + 8 * (e s0 0))) J H → va_S A s_.heap H locs → lv_has ls 6 [(0, .ref b), (1, .int (nI s0)), (2, .int (nI (e s0 0))), (3, .int yy_), (4, .int (nI (i21 + 1)))] → W p_ l e_ R s_ m_ args_ below_ meth_ c_ H locs 0 0 Qq (F0 m_ 21 ls []) := fun yy_ ey => by rw [ey]; exact k4
    refine lv_iload hx hb dX4_blocking_21 (lv_at hl 4 rfl) ?_
    refine lv_bipush (v := nI 8) hx hb dX4_blocking_23 (by decide) ?_
    refine mr_geN (x := i21) (y := 8) (tgt := 99) C0 dX4_blocking_25 (by decide) (by omega) (by omega) (fun c6 => absurd c6 (by omega)) (fun c6 => ?_)
    refine lv_iconst (v := nI 0) hx hb dX4_blocking_28 (by decide) ?_
    refine lv_istore (lv' := [(5, .int (nI 0)), (0, .ref b), (1, .int (nI s0)), (2, .int (nI (e s0 0))), (3, .int x21), (4, .int (nI i21))]) hx hb dX4_blocking_29 hl (by decide) rfl (fun ls hl => ?_)
    have hw7 := (show WfM ((fX4_layAfter I b (185 + 8 * (e s0 0))) (b + 1)) c e ep lg from WfM_eq (fX4_layAfter_ne (by omega)) hWm).1 i21 (by omega)
    have hw7b := hw7.2
    refine lpr_loop (σ := Int32) (ρ := Int32) (fun i31 x31 => ∀ (H : Heap) (locs : List Loc) (ls : Array Slot), hm D T L A Sh (fX4_layAfter I b (185 + 8 * (e s0 0))) J H → va_S A s_.heap H locs → lv_has ls 6 [(0, .ref b), (1, .int (nI s0)), (2, .int (nI (e s0 0))), (3, .int x31), (4, .int (nI i21)), (5, .int (nI i31))] → W p_ l e_ R s_ m_ args_ below_ meth_ c_ H locs 0 0 Qq (F0 m_ 31 ls [])) (c i21) (fun (i31 : Nat) (x31 : Int32) => (if i21 = s0 then Sum.inl x31 else if fX4_has ((fX4_layAfter I b (185 + 8 * (e s0 0))) (b + 4) i21) (nI s0) = true then if nI (e s0 0) < (fX4_layAfter I b (185 + 8 * (e s0 0))) (b + 1) (32 + 18 * i21 + 3 * i31 + 2) then Sum.inr (x31 + (nI 0)) else Sum.inr (x31 + (nI 1)) else Sum.inl x31 : Int32 ⊕ (Int32))) (fun (x31 : Int32) => (x31 : Int32)) x21 (fun _ _ => True) trivial (fun _ _ _ _ _ _ => trivial) (fun i31 x31 hi8 hv9 kv10 k11 H locs ls hM hS hl => ?_) (fun x31 hv9 hd H locs ls hM hS hl => ?_) _ _ _ hM hS (lv_sub hl [1, 2, 3, 4, 5, 0] rfl)
    · skip
      refine lv_iload hx hb dX4_blocking_31 (lv_at hl 5 rfl) ?_
      refine lv_aload_n hx hb dX4_blocking_33 rfl (lv_at hl 0 rfl) ?_
      refine mr_getr (r := b + 1) (TT := TX4) (N := 10) C0 uX4_blocking_X4 hM hMo.1.1 hMo.1.2 rfl 0 (by decide) rfl kX4_blocking_f7 rfl dX4_blocking_34 ?_
      refine lv_bipush (v := nI 24) hx hb dX4_blocking_37 (by decide) ?_
      refine lv_iload hx hb dX4_blocking_39 (lv_at hl 4 rfl) ?_
      refine mr_iaddN (z := 24 + i21) C0 rfl dX4_blocking_41 ?_
      refine mr_ialdN (v := nI (c i21)) C0 hM hMo.2.1.1 hMo.2.1.2 (by decide) (by omega) hw7.1 dX4_blocking_42 ?_
      refine mr_geN (x := i31) (y := (c i21)) (tgt := 93) C0 dX4_blocking_43 (by decide) (by omega) (by omega) (fun c12 => absurd c12 (by omega)) (fun c12 => ?_)
      refine lv_iload hx hb dX4_blocking_46 (lv_at hl 4 rfl) ?_
      refine lv_iload_n hx hb dX4_blocking_48 rfl (lv_at hl 1 rfl) ?_
      refine mr_eqN (x := i21) (y := s0) (tgt := 93) C0 dX4_blocking_49 (by decide) (by omega) (by omega) (fun c13 => ?_) (fun c13 => ?_)
      · skip
        refine lv_iinc (v := nI (i21 + 1)) (lv' := [(4, .int (nI (i21 + 1))), (0, .ref b), (1, .int (nI s0)), (2, .int (nI (e s0 0))), (3, .int x31), (5, .int (nI i31))]) hx hb dX4_blocking_93 hl (k := 4) rfl (nI_1 _) (by decide) rfl (fun ls hl => ?_)
        refine lv_goto (tgt := 21) hx hb dX4_blocking_96 (by decide) ?_
        have hf14 := kv10 x31 (by rw [if_pos c13])
        exact stp5 x31 hf14 H locs ls hM hS (lv_sub hl [1, 2, 3, 4, 0] rfl)
      · skip
        refine lv_aload_n hx hb dX4_blocking_52 rfl (lv_at hl 0 rfl) ?_
        refine mr_getr (r := b + 4) (TT := TX4) (N := 10) C0 uX4_blocking_X4 hM hMo.1.1 hMo.1.2 rfl 5 (by decide) rfl kX4_blocking_f19 rfl dX4_blocking_53 ?_
        refine lv_iload hx hb dX4_blocking_56 (lv_at hl 4 rfl) ?_
        refine mr_ialdN (v := (fX4_layAfter I b (185 + 8 * (e s0 0))) (b + 4) i21) C0 hM hMo.2.2.2.2.1.1 hMo.2.2.2.2.1.2 (by decide) (by omega) rfl dX4_blocking_58 ?_
        refine lv_iload_n hx hb dX4_blocking_59 rfl (lv_at hl 1 rfl) ?_
        refine mr_callS (As := [.int ((fX4_layAfter I b (185 + 8 * (e s0 0))) (b + 4) i21), .int (nI s0)]) C0 (ctX4_has (I := (fX4_layAfter I b (185 + 8 * (e s0 0)))) (J := J) (u := ((fX4_layAfter I b (185 + 8 * (e s0 0))) (b + 4) i21)) (s0 := (nI s0)) ) (va_cwS 2 C0.1.2.2.2.2 gX4_blocking_X4_has rfl rfl rfl (by decide +kernel) (by rw [hR]; exact ⟨Nat.le_of_ble_eq_true rfl, Nat.le_of_ble_eq_true rfl⟩)) hM hS rfl rfl rfl hl.1 (Nat.le_of_ble_eq_true rfl) dX4_blocking_60 (by rw [hR]; exact ⟨Nat.zero_le _, Nat.zero_le _⟩) (fun H locs hM hS => ?_)
        refine mr_eqB (tgt := 93) C0 dX4_blocking_63 (by decide) (fun c15 => ?_) (fun c15 => ?_)
        · skip
          refine lv_iinc (v := nI (i21 + 1)) (lv' := [(4, .int (nI (i21 + 1))), (0, .ref b), (1, .int (nI s0)), (2, .int (nI (e s0 0))), (3, .int x31), (5, .int (nI i31))]) hx hb dX4_blocking_93 hl (k := 4) rfl (nI_1 _) (by decide) rfl (fun ls hl => ?_)
          refine lv_goto (tgt := 21) hx hb dX4_blocking_96 (by decide) ?_
          have hf16 := kv10 x31 (by rw [if_neg c13, if_neg (Bool.eq_false_iff.mp c15)])
          exact stp5 x31 hf16 H locs ls hM hS (lv_sub hl [1, 2, 3, 4, 0] rfl)
        · skip
          refine lv_iload_n hx hb dX4_blocking_66 rfl (lv_at hl 3 rfl) ?_
          refine lv_aload_n hx hb dX4_blocking_67 rfl (lv_at hl 0 rfl) ?_
          refine lv_iload hx hb dX4_blocking_68 (lv_at hl 4 rfl) ?_
          refine lv_iload hx hb dX4_blocking_70 (lv_at hl 5 rfl) ?_
          refine lv_iconst (v := nI 2) hx hb dX4_blocking_72 (by decide) ?_
          refine mr_callV (As := [.int (nI i21), .int (nI i31), .int (nI 2)]) C0 (ctX4_frameAt_t (I := (fX4_layAfter I b (185 + 8 * (e s0 0)))) (J := J) (b := b) (s0 := i21) (k0 := i31) (w0 := 2) hMo (by omega)) (cwV 3 C0.1.2.2.2.2 gX4_blocking_X4_frameAt rfl rfl rfl (by decide +kernel) (by rw [hR]; exact ⟨Nat.le_of_ble_eq_true rfl, Nat.le_of_ble_eq_true rfl⟩)) hM hMo.1.1 hMo.1.2 rfl rfl hM hS rfl rfl rfl hl.1 (Nat.le_of_ble_eq_true rfl) dX4_blocking_73 (by rw [hR]; exact ⟨Nat.zero_le _, Nat.zero_le _⟩) (fun H locs hM hS => ?_)
          refine lv_iload_n hx hb dX4_blocking_76 rfl (lv_at hl 2 rfl) ?_
          refine lv_icmp_gt (tgt := 84) hx hb dX4_blocking_77 (by decide) (fun c17 => ?_) (fun c17 => ?_)
          · skip
            refine lv_iconst (v := nI 0) hx hb dX4_blocking_84 (by decide) ?_
            refine lv_iadd hx hb dX4_blocking_85 ?_
            refine lv_istore_n (lv' := [(3, .int (x31 + (nI 0))), (0, .ref b), (1, .int (nI s0)), (2, .int (nI (e s0 0))), (4, .int (nI i21)), (5, .int (nI i31))]) hx hb dX4_blocking_86 rfl hl (by decide) rfl (fun ls hl => ?_)
            refine lv_iinc (v := nI (i31 + 1)) (lv' := [(5, .int (nI (i31 + 1))), (3, .int (x31 + (nI 0))), (0, .ref b), (1, .int (nI s0)), (2, .int (nI (e s0 0))), (4, .int (nI i21))]) hx hb dX4_blocking_87 hl (k := 5) rfl (nI_1 _) (by decide) rfl (fun ls hl => ?_)
            refine lv_goto (tgt := 31) hx hb dX4_blocking_90 (by decide) ?_
            exact k11 (x31 + (nI 0)) (by rw [if_neg c13, if_pos c15, if_pos c17]) H locs ls hM hS (lv_sub hl [2, 3, 4, 1, 5, 0] rfl)
          · skip
            refine lv_iconst (v := nI 1) hx hb dX4_blocking_80 (by decide) ?_
            refine lv_goto (tgt := 85) hx hb dX4_blocking_81 (by decide) ?_
            refine lv_iadd hx hb dX4_blocking_85 ?_
            refine lv_istore_n (lv' := [(3, .int (x31 + (nI 1))), (0, .ref b), (1, .int (nI s0)), (2, .int (nI (e s0 0))), (4, .int (nI i21)), (5, .int (nI i31))]) hx hb dX4_blocking_86 rfl hl (by decide) rfl (fun ls hl => ?_)
            refine lv_iinc (v := nI (i31 + 1)) (lv' := [(5, .int (nI (i31 + 1))), (3, .int (x31 + (nI 1))), (0, .ref b), (1, .int (nI s0)), (2, .int (nI (e s0 0))), (4, .int (nI i21))]) hx hb dX4_blocking_87 hl (k := 5) rfl (nI_1 _) (by decide) rfl (fun ls hl => ?_)
            refine lv_goto (tgt := 31) hx hb dX4_blocking_90 (by decide) ?_
            exact k11 (x31 + (nI 1)) (by rw [if_neg c13, if_pos c15, if_neg c17]) H locs ls hM hS (lv_sub hl [2, 3, 4, 1, 5, 0] rfl)
    · skip
      refine lv_iload hx hb dX4_blocking_31 (lv_at hl 5 rfl) ?_
      refine lv_aload_n hx hb dX4_blocking_33 rfl (lv_at hl 0 rfl) ?_
      refine mr_getr (r := b + 1) (TT := TX4) (N := 10) C0 uX4_blocking_X4 hM hMo.1.1 hMo.1.2 rfl 0 (by decide) rfl kX4_blocking_f7 rfl dX4_blocking_34 ?_
      refine lv_bipush (v := nI 24) hx hb dX4_blocking_37 (by decide) ?_
      refine lv_iload hx hb dX4_blocking_39 (lv_at hl 4 rfl) ?_
      refine mr_iaddN (z := 24 + i21) C0 rfl dX4_blocking_41 ?_
      refine mr_ialdN (v := nI (c i21)) C0 hM hMo.2.1.1 hMo.2.1.2 (by decide) (by omega) hw7.1 dX4_blocking_42 ?_
      refine mr_geN (x := (c i21)) (y := (c i21)) (tgt := 93) C0 dX4_blocking_43 (by decide) (by omega) (by omega) (fun c18 => ?_) (fun c18 => absurd c18 (by omega))
      refine lv_iinc (v := nI (i21 + 1)) (lv' := [(4, .int (nI (i21 + 1))), (0, .ref b), (1, .int (nI s0)), (2, .int (nI (e s0 0))), (3, .int x31), (5, .int (nI (c i21)))]) hx hb dX4_blocking_93 hl (k := 4) rfl (nI_1 _) (by decide) rfl (fun ls hl => ?_)
      refine lv_goto (tgt := 21) hx hb dX4_blocking_96 (by decide) ?_
      have hf19 := Eq.trans (a := x31) rfl hd
      exact stp5 x31 hf19 H locs ls hM hS (lv_sub hl [1, 2, 3, 4, 0] rfl)
  · skip
    refine lv_iload hx hb dX4_blocking_21 (lv_at hl 4 rfl) ?_
    refine lv_bipush (v := nI 8) hx hb dX4_blocking_23 (by decide) ?_
    refine mr_geN (x := 8) (y := 8) (tgt := 99) C0 dX4_blocking_25 (by decide) (by decide) (by decide) (fun _ => ?_) (fun c20 => absurd c20 (by decide))
    refine lv_iload_n hx hb dX4_blocking_99 rfl (lv_at hl 3 rfl) ?_
    have eF : ((lp 8 (fun i21 x21 => lpr (fun (i31 : Nat) (x31 : Int32) => (if i21 = s0 then Sum.inl x31 else if fX4_has ((fX4_layAfter I b (185 + 8 * (e s0 0))) (b + 4) i21) (nI s0) = true then if nI (e s0 0) < (fX4_layAfter I b (185 + 8 * (e s0 0))) (b + 1) (32 + 18 * i21 + 3 * i31 + 2) then Sum.inr (x31 + (nI 0)) else Sum.inr (x31 + (nI 1)) else Sum.inl x31 : Int32 ⊕ (Int32))) (fun (x31 : Int32) => (x31 : Int32)) (c i21) 0 x21) (nI 0)), fX4_layAfter I b (185 + 8 * (e s0 0))) = fX4_blocking_t I b c e s0 := rfl
    exact mr_iret (v := (lp 8 (fun i21 x21 => lpr (fun (i31 : Nat) (x31 : Int32) => (if i21 = s0 then Sum.inl x31 else if fX4_has ((fX4_layAfter I b (185 + 8 * (e s0 0))) (b + 4) i21) (nI s0) = true then if nI (e s0 0) < (fX4_layAfter I b (185 + 8 * (e s0 0))) (b + 1) (32 + 18 * i21 + 3 * i31 + 2) then Sum.inr (x31 + (nI 0)) else Sum.inr (x31 + (nI 1)) else Sum.inl x31 : Int32 ⊕ (Int32))) (fun (x31 : Int32) => (x31 : Int32)) (c i21) 0 x21) (nI 0))) C0 hr hlk hQ hS (by rw [← eF]) (by rw [← eF]; exact hM) (Nat.le_refl _) (Nat.le_refl _) dX4_blocking_100
theorem fX4_blocking_ne {I : hm_I} {b : Nat} {c : Nat → Nat} {e : Nat → Nat → Nat} {s0 x0 : Nat} (h : x0 ≠ b + 4) : (fX4_blocking_t I b c e s0).2 x0 = I x0 := by
  unfold fX4_blocking_t
  exact fX4_layAfter_ne h
def fX4_isCandidate_t (I : hm_I) (b : Nat) (c : Nat → Nat) (e : Nat → Nat → Nat) (s0 : Nat) : Bool × hm_I :=
  if (c s0) = 0 then (false, I) else if (fX4_blocking_t I b c e s0).1 = 0 then (true, (fX4_blocking_t I b c e s0).2) else (false, (fX4_blocking_t I b c e s0).2)
set_option maxHeartbeats 4000000 in
set_option maxRecDepth 100000 in
theorem ctX4_isCandidate_t {l : Launch} {D : va_G} {T : Nat → ClassId} {L : List Nat} {A : Nat → Prop} {Sh : hm_S} {I : hm_I} {J : hm_J} {b : Nat} (hMo : IsM L Sh b) {c : Nat → Nat} {e : Nat → Nat → Nat} {ep lg : Nat} (hWm : WfM (I (b + 1)) c e ep lg) {s0 : Nat} (hs0 : s0 < 8) :
    Ct l yX4_isCandidate wsX4_isCandidate { frames := 3, cells := 0, slots := 0, locals := 69 } 0 0 D T A [.ref b, .int (nI s0)] (hm D T L A Sh I J) (some (.int (bI ((fX4_isCandidate_t I b c e s0).1)))) (hm D T L A Sh ((fX4_isCandidate_t I b c e s0).2) J) := by
  refine Ct.ofW (cc := cX4_isCandidate) (maxL := 2) (ret := (some .boolean)) (by decide) rfl (Nat.le_of_ble_eq_true rfl) ?_
  intro p_ e_ s_ m_ args_ below_ meth_ c_ ls R Qq hR hQ C0 hr hlk hname hM hl
  have hx := C0.1.1
  have hb := C0.1.2.1
  have hS : va_S A s_.heap s_.heap [] := va_S.rf
  have hl : lv_has ls 2 [(0, .ref b), (1, .int (nI s0))] := hl
  refine lv_aload_n hx hb dX4_isCandidate_0 rfl (lv_at hl 0 rfl) ?_
  refine mr_getr (r := b + 1) (TT := TX4) (N := 10) C0 uX4_isCandidate_X4 hM hMo.1.1 hMo.1.2 rfl 0 (by decide) rfl kX4_isCandidate_f7 rfl dX4_isCandidate_1 ?_
  refine lv_bipush (v := nI 24) hx hb dX4_isCandidate_4 (by decide) ?_
  refine lv_iload_n hx hb dX4_isCandidate_6 rfl (lv_at hl 1 rfl) ?_
  refine mr_iaddN (z := 24 + s0) C0 rfl dX4_isCandidate_7 ?_
  have hw1 := hWm.1 s0 (by omega)
  have hw1b := hw1.2
  refine mr_ialdN (v := nI (c s0)) C0 hM hMo.2.1.1 hMo.2.1.2 (by decide) (by omega) hw1.1 dX4_isCandidate_8 ?_
  refine mr_le0N (x := (c s0)) (tgt := 24) C0 dX4_isCandidate_9 (by decide) (by omega) (fun c2 => ?_) (fun c2 => ?_)
  · skip
    refine lv_iconst (v := nI 0) hx hb dX4_isCandidate_24 (by decide) ?_
    refine mr_top (y := bI false) (by decide) ?_
    have eF : (false, I) = fX4_isCandidate_t I b c e s0 := by unfold fX4_isCandidate_t; rw [if_pos c2]
    exact mr_zret (b := false) C0 hr hlk hQ hS (by rw [← eF]) (by rw [← eF]; exact hM) (Nat.le_refl _) (Nat.le_refl _) dX4_isCandidate_25
  · skip
    refine lv_aload_n hx hb dX4_isCandidate_12 rfl (lv_at hl 0 rfl) ?_
    refine lv_iload_n hx hb dX4_isCandidate_13 rfl (lv_at hl 1 rfl) ?_
    refine mr_callV (As := [.int (nI s0)]) C0 (ctX4_blocking_t (I := I) (J := J) (b := b) (s0 := s0) hMo hWm (by omega) (by omega)) (cwV 1 C0.1.2.2.2.2 gX4_isCandidate_X4_blocking rfl rfl rfl (by decide +kernel) (by rw [hR]; exact ⟨Nat.le_of_ble_eq_true rfl, Nat.le_of_ble_eq_true rfl⟩)) hM hMo.1.1 hMo.1.2 rfl rfl hM hS rfl rfl rfl hl.1 (Nat.le_of_ble_eq_true rfl) dX4_isCandidate_14 (by rw [hR]; exact ⟨Nat.zero_le _, Nat.zero_le _⟩) (fun H locs hM hS => ?_)
    refine lv_if_ne (tgt := 24) hx hb dX4_isCandidate_17 (by decide) (fun c3 => ?_) (fun c3 => ?_)
    · skip
      refine lv_iconst (v := nI 0) hx hb dX4_isCandidate_24 (by decide) ?_
      refine mr_top (y := bI false) (by decide) ?_
      have eF : (false, (fX4_blocking_t I b c e s0).2) = fX4_isCandidate_t I b c e s0 := by unfold fX4_isCandidate_t; rw [if_neg (Nat.ne_of_gt c2), if_neg c3]
      exact mr_zret (b := false) C0 hr hlk hQ hS (by rw [← eF]) (by rw [← eF]; exact hM) (Nat.le_refl _) (Nat.le_refl _) dX4_isCandidate_25
    · skip
      refine lv_iconst (v := nI 1) hx hb dX4_isCandidate_20 (by decide) ?_
      refine lv_goto (tgt := 25) hx hb dX4_isCandidate_21 (by decide) ?_
      refine mr_top (y := bI true) (by decide) ?_
      have eF : (true, (fX4_blocking_t I b c e s0).2) = fX4_isCandidate_t I b c e s0 := by unfold fX4_isCandidate_t; rw [if_neg (Nat.ne_of_gt c2), if_pos c3]
      exact mr_zret (b := true) C0 hr hlk hQ hS (by rw [← eF]) (by rw [← eF]; exact hM) (Nat.le_refl _) (Nat.le_refl _) dX4_isCandidate_25
theorem fX4_isCandidate_ne {I : hm_I} {b : Nat} {c : Nat → Nat} {e : Nat → Nat → Nat} {s0 x0 : Nat} (h : x0 ≠ b + 4) : (fX4_isCandidate_t I b c e s0).2 x0 = I x0 := by
  unfold fX4_isCandidate_t
  split
  · rfl
  · split <;> exact fX4_blocking_ne (c := c) h
def fX4_nextStream (I : hm_I) (b : Nat) (c : Nat → Nat) (e : Nat → Nat → Nat) : Int32 × hm_I :=
  ((lp 8 (fun i5 x5 => if (fX4_isCandidate_t x5.1 b c e i5).1 = true then if x5.2 = (-9) then ((fX4_isCandidate_t x5.1 b c e i5).2, nI i5) else if 0 ≤ lg_cmp (((((fX4_isCandidate_t x5.1 b c e i5).2) (b + 1) (16 + i5)).toInt64) * ((((fX4_isCandidate_t x5.1 b c e i5).2) (b + 1) (8 + (x5.2).toNatClampNeg)).toInt64)) (((((fX4_isCandidate_t x5.1 b c e i5).2) (b + 1) (16 + (x5.2).toNatClampNeg)).toInt64) * ((((fX4_isCandidate_t x5.1 b c e i5).2) (b + 1) (8 + i5)).toInt64)) then ((fX4_isCandidate_t x5.1 b c e i5).2, x5.2) else ((fX4_isCandidate_t x5.1 b c e i5).2, nI i5) else ((fX4_isCandidate_t x5.1 b c e i5).2, x5.2)) (I, (-9))).2, (lp 8 (fun i5 x5 => if (fX4_isCandidate_t x5.1 b c e i5).1 = true then if x5.2 = (-9) then ((fX4_isCandidate_t x5.1 b c e i5).2, nI i5) else if 0 ≤ lg_cmp (((((fX4_isCandidate_t x5.1 b c e i5).2) (b + 1) (16 + i5)).toInt64) * ((((fX4_isCandidate_t x5.1 b c e i5).2) (b + 1) (8 + (x5.2).toNatClampNeg)).toInt64)) (((((fX4_isCandidate_t x5.1 b c e i5).2) (b + 1) (16 + (x5.2).toNatClampNeg)).toInt64) * ((((fX4_isCandidate_t x5.1 b c e i5).2) (b + 1) (8 + i5)).toInt64)) then ((fX4_isCandidate_t x5.1 b c e i5).2, x5.2) else ((fX4_isCandidate_t x5.1 b c e i5).2, nI i5) else ((fX4_isCandidate_t x5.1 b c e i5).2, x5.2)) (I, (-9))).1)
set_option maxHeartbeats 4000000 in
set_option maxRecDepth 100000 in
theorem ctX4_nextStream {l : Launch} {D : va_G} {T : Nat → ClassId} {L : List Nat} {A : Nat → Prop} {Sh : hm_S} {I : hm_I} {J : hm_J} {b : Nat} (hMo : IsM L Sh b) {c : Nat → Nat} {e : Nat → Nat → Nat} {ep lg : Nat} (hWm : WfM (I (b + 1)) c e ep lg) :
    Ct l yX4_nextStream wsX4_nextStream { frames := 4, cells := 0, slots := 0, locals := 90 } 0 0 D T A [.ref b] (hm D T L A Sh I J) (some (.int ((fX4_nextStream I b c e).1))) (hm D T L A Sh ((fX4_nextStream I b c e).2) J) := by
  refine Ct.ofW (cc := cX4_nextStream) (maxL := 4) (ret := (some .int)) (by decide) rfl (Nat.le_of_ble_eq_true rfl) ?_
  intro p_ e_ s_ m_ args_ below_ meth_ c_ ls R Qq hR hQ C0 hr hlk hname hM hl
  have hx := C0.1.1
  have hb := C0.1.2.1
  have hS : va_S A s_.heap s_.heap [] := va_S.rf
  have hl : lv_has ls 4 [(0, .ref b)] := hl
  refine lv_bipush (v := (-9)) hx hb dX4_nextStream_0 (by decide) ?_
  refine lv_istore_n (lv' := [(1, .int (-9)), (0, .ref b)]) hx hb dX4_nextStream_2 rfl hl (by decide) rfl (fun ls hl => ?_)
  refine lv_iconst (v := nI 0) hx hb dX4_nextStream_3 (by decide) ?_
  refine lv_istore_n (lv' := [(2, .int (nI 0)), (1, .int (-9)), (0, .ref b)]) hx hb dX4_nextStream_4 rfl hl (by decide) rfl (fun ls hl => ?_)
  refine lp_loop (σ := hm_I × Int32) (fun i5 x5 => ∀ (H : Heap) (locs : List Loc) (ls : Array Slot), hm D T L A Sh x5.1 J H → va_S A s_.heap H locs → lv_has ls 4 [(0, .ref b), (1, .int x5.2), (2, .int (nI i5))] → W p_ l e_ R s_ m_ args_ below_ meth_ c_ H locs 0 0 Qq (F0 m_ 5 ls [])) 8 (fun i5 x5 => if (fX4_isCandidate_t x5.1 b c e i5).1 = true then if x5.2 = (-9) then ((fX4_isCandidate_t x5.1 b c e i5).2, nI i5) else if 0 ≤ lg_cmp (((((fX4_isCandidate_t x5.1 b c e i5).2) (b + 1) (16 + i5)).toInt64) * ((((fX4_isCandidate_t x5.1 b c e i5).2) (b + 1) (8 + (x5.2).toNatClampNeg)).toInt64)) (((((fX4_isCandidate_t x5.1 b c e i5).2) (b + 1) (16 + (x5.2).toNatClampNeg)).toInt64) * ((((fX4_isCandidate_t x5.1 b c e i5).2) (b + 1) (8 + i5)).toInt64)) then ((fX4_isCandidate_t x5.1 b c e i5).2, x5.2) else ((fX4_isCandidate_t x5.1 b c e i5).2, nI i5) else ((fX4_isCandidate_t x5.1 b c e i5).2, x5.2)) (I, (-9)) (fun (i5 : Nat) (x5 : hm_I × Int32) => x5.1 (b + 1) = I (b + 1) ∧ (x5.2 = -9 ∨ ∃ k : Nat, k < 8 ∧ x5.2 = nI k)) ⟨rfl, Or.inl rfl⟩ (fun i x hi hv => by
    have hne : (fX4_isCandidate_t x.1 b c e i).2 (b + 1) = I (b + 1) := (fX4_isCandidate_ne (by omega)).trans hv.1
    (try dsimp only)
    repeat' split
    all_goals first | exact ⟨hne, Or.inr ⟨i, hi, rfl⟩⟩ | exact ⟨hne, hv.2⟩) (fun i5 x5 hi1 hv2 k3 H locs ls hM hS hl => ?_) (fun hv2 H locs ls hM hS hl => ?_) _ _ _ hM hS (lv_sub hl [2, 1, 0] rfl)
  · have stp4 : ∀ yy_ : hm_I × Int32, yy_ = (if (fX4_isCandidate_t x5.1 b c e i5).1 = true then if x5.2 = (-9) then ((fX4_isCandidate_t x5.1 b c e i5).2, nI i5) else if 0 ≤ lg_cmp (((((fX4_isCandidate_t x5.1 b c e i5).2) (b + 1) (16 + i5)).toInt64) * ((((fX4_isCandidate_t x5.1 b c e i5).2) (b + 1) (8 + (x5.2).toNatClampNeg)).toInt64)) (((((fX4_isCandidate_t x5.1 b c e i5).2) (b + 1) (16 + (x5.2).toNatClampNeg)).toInt64) * ((((fX4_isCandidate_t x5.1 b c e i5).2) (b + 1) (8 + i5)).toInt64)) then ((fX4_isCandidate_t x5.1 b c e i5).2, x5.2) else ((fX4_isCandidate_t x5.1 b c e i5).2, nI i5) else ((fX4_isCandidate_t x5.1 b c e i5).2, x5.2)) → ∀ (H : Heap) (locs : List Loc) (ls : Array Slot), hm D T L A Sh yy_.1 J H → va_S A s_.heap H locs → lv_has ls 4 [(0, .ref b), (1, .int yy_.2), (2, .int (nI (i5 + 1)))] → W p_ l e_ R s_ m_ args_ below_ meth_ c_ H locs 0 0 Qq (F0 m_ 5 ls []) := fun yy_ ey => by rw [ey]; exact k3
    refine lv_iload_n hx hb dX4_nextStream_5 rfl (lv_at hl 2 rfl) ?_
    refine lv_bipush (v := nI 8) hx hb dX4_nextStream_6 (by decide) ?_
    refine mr_geN (x := i5) (y := 8) (tgt := 93) C0 dX4_nextStream_8 (by decide) (by omega) (by omega) (fun c5 => absurd c5 (by omega)) (fun c5 => ?_)
    refine lv_aload_n hx hb dX4_nextStream_11 rfl (lv_at hl 0 rfl) ?_
    refine lv_iload_n hx hb dX4_nextStream_12 rfl (lv_at hl 2 rfl) ?_
    refine mr_callV (As := [.int (nI i5)]) C0 (ctX4_isCandidate_t (I := x5.1) (J := J) (b := b) (s0 := i5) hMo (WfM_eq hv2.1 hWm) (by omega)) (cwV 1 C0.1.2.2.2.2 gX4_nextStream_X4_isCandidate rfl rfl rfl (by decide +kernel) (by rw [hR]; exact ⟨Nat.le_of_ble_eq_true rfl, Nat.le_of_ble_eq_true rfl⟩)) hM hMo.1.1 hMo.1.2 rfl rfl hM hS rfl rfl rfl hl.1 (Nat.le_of_ble_eq_true rfl) dX4_nextStream_13 (by rw [hR]; exact ⟨Nat.zero_le _, Nat.zero_le _⟩) (fun H locs hM hS => ?_)
    refine mr_eqB (tgt := 87) C0 dX4_nextStream_16 (by decide) (fun c6 => ?_) (fun c6 => ?_)
    · skip
      refine lv_iinc (v := nI (i5 + 1)) (lv' := [(2, .int (nI (i5 + 1))), (0, .ref b), (1, .int x5.2)]) hx hb dX4_nextStream_87 hl (k := 2) rfl (nI_1 _) (by decide) rfl (fun ls hl => ?_)
      refine lv_goto (tgt := 5) hx hb dX4_nextStream_90 (by decide) ?_
      exact stp4 ((fX4_isCandidate_t x5.1 b c e i5).2, x5.2) (by rw [if_neg (Bool.eq_false_iff.mp c6)]) H locs ls hM hS (lv_sub hl [1, 2, 0] rfl)
    · skip
      refine lv_iload_n hx hb dX4_nextStream_19 rfl (lv_at hl 1 rfl) ?_
      refine lv_bipush (v := (-9)) hx hb dX4_nextStream_20 (by decide) ?_
      refine lv_icmp_eq (tgt := 71) hx hb dX4_nextStream_22 (by decide) (fun c7 => ?_) (fun c7 => ?_)
      · skip
        refine lv_iconst (v := nI 1) hx hb dX4_nextStream_71 (by decide) ?_
        refine lv_goto (tgt := 76) hx hb dX4_nextStream_72 (by decide) ?_
        refine lv_istore_n (lv' := [(3, .int (nI 1)), (0, .ref b), (1, .int x5.2), (2, .int (nI i5))]) hx hb dX4_nextStream_76 rfl hl (by decide) rfl (fun ls hl => ?_)
        refine lv_iload_n hx hb dX4_nextStream_77 rfl (lv_at hl 0 rfl) ?_
        refine lv_if_eq (x := nI 1) (tgt := 85) hx hb dX4_nextStream_78 (by decide) (fun c8 => absurd c8 (by decide)) (fun _ => ?_)
        refine lv_iload_n hx hb dX4_nextStream_81 rfl (lv_at hl 3 rfl) ?_
        refine lv_goto (tgt := 86) hx hb dX4_nextStream_82 (by decide) ?_
        refine lv_istore_n (lv' := [(1, .int (nI i5)), (3, .int (nI 1)), (0, .ref b), (2, .int (nI i5))]) hx hb dX4_nextStream_86 rfl hl (by decide) rfl (fun ls hl => ?_)
        refine lv_iinc (v := nI (i5 + 1)) (lv' := [(2, .int (nI (i5 + 1))), (1, .int (nI i5)), (3, .int (nI 1)), (0, .ref b)]) hx hb dX4_nextStream_87 hl (k := 3) rfl (nI_1 _) (by decide) rfl (fun ls hl => ?_)
        refine lv_goto (tgt := 5) hx hb dX4_nextStream_90 (by decide) ?_
        exact stp4 ((fX4_isCandidate_t x5.1 b c e i5).2, nI i5) (by rw [if_pos c6, if_pos c7]) H locs ls hM hS (lv_sub hl [3, 1, 0] rfl)
      · skip
        refine lv_aload_n hx hb dX4_nextStream_25 rfl (lv_at hl 0 rfl) ?_
        refine mr_getr (r := b + 1) (TT := TX4) (N := 10) C0 uX4_nextStream_X4 hM hMo.1.1 hMo.1.2 rfl 0 (by decide) rfl kX4_nextStream_f7 rfl dX4_nextStream_26 ?_
        refine lv_bipush (v := nI 16) hx hb dX4_nextStream_29 (by decide) ?_
        refine lv_iload_n hx hb dX4_nextStream_31 rfl (lv_at hl 2 rfl) ?_
        refine mr_iaddN (z := 16 + i5) C0 rfl dX4_nextStream_32 ?_
        refine mr_ialdN (v := ((fX4_isCandidate_t x5.1 b c e i5).2) (b + 1) (16 + i5)) C0 hM hMo.2.1.1 hMo.2.1.2 (by decide) (by omega) rfl dX4_nextStream_33 ?_
        refine lv_i2l hx hb dX4_nextStream_34 rfl ?_
        refine lv_aload_n hx hb dX4_nextStream_35 rfl (lv_at hl 0 rfl) ?_
        refine mr_getr (r := b + 1) (TT := TX4) (N := 10) C0 uX4_nextStream_X4 hM hMo.1.1 hMo.1.2 rfl 0 (by decide) rfl kX4_nextStream_f7 rfl dX4_nextStream_36 ?_
        refine lv_bipush (v := nI 8) hx hb dX4_nextStream_39 (by decide) ?_
        refine lv_iload_n hx hb dX4_nextStream_41 rfl (lv_at hl 1 rfl) ?_
        refine lv_iadd hx hb dX4_nextStream_42 ?_
        have hb9 := best_nat hv2.2 c7
        refine mr_top (y := nI (8 + (x5.2).toNatClampNeg)) (by rw [← nI_add, ← hb9.1]) ?_
        refine mr_ialdN (v := ((fX4_isCandidate_t x5.1 b c e i5).2) (b + 1) (8 + (x5.2).toNatClampNeg)) C0 hM hMo.2.1.1 hMo.2.1.2 (by decide) (by omega) rfl dX4_nextStream_43 ?_
        refine lv_i2l hx hb dX4_nextStream_44 rfl ?_
        refine lv_lmul hx hb dX4_nextStream_45 ?_
        refine lv_aload_n hx hb dX4_nextStream_46 rfl (lv_at hl 0 rfl) ?_
        refine mr_getr (r := b + 1) (TT := TX4) (N := 10) C0 uX4_nextStream_X4 hM hMo.1.1 hMo.1.2 rfl 0 (by decide) rfl kX4_nextStream_f7 rfl dX4_nextStream_47 ?_
        refine lv_bipush (v := nI 16) hx hb dX4_nextStream_50 (by decide) ?_
        refine lv_iload_n hx hb dX4_nextStream_52 rfl (lv_at hl 1 rfl) ?_
        refine lv_iadd hx hb dX4_nextStream_53 ?_
        have hb10 := best_nat hv2.2 c7
        refine mr_top (y := nI (16 + (x5.2).toNatClampNeg)) (by rw [← nI_add, ← hb10.1]) ?_
        refine mr_ialdN (v := ((fX4_isCandidate_t x5.1 b c e i5).2) (b + 1) (16 + (x5.2).toNatClampNeg)) C0 hM hMo.2.1.1 hMo.2.1.2 (by decide) (by omega) rfl dX4_nextStream_54 ?_
        refine lv_i2l hx hb dX4_nextStream_55 rfl ?_
        refine lv_aload_n hx hb dX4_nextStream_56 rfl (lv_at hl 0 rfl) ?_
        refine mr_getr (r := b + 1) (TT := TX4) (N := 10) C0 uX4_nextStream_X4 hM hMo.1.1 hMo.1.2 rfl 0 (by decide) rfl kX4_nextStream_f7 rfl dX4_nextStream_57 ?_
        refine lv_bipush (v := nI 8) hx hb dX4_nextStream_60 (by decide) ?_
        refine lv_iload_n hx hb dX4_nextStream_62 rfl (lv_at hl 2 rfl) ?_
        refine mr_iaddN (z := 8 + i5) C0 rfl dX4_nextStream_63 ?_
        refine mr_ialdN (v := ((fX4_isCandidate_t x5.1 b c e i5).2) (b + 1) (8 + i5)) C0 hM hMo.2.1.1 hMo.2.1.2 (by decide) (by omega) rfl dX4_nextStream_64 ?_
        refine lv_i2l hx hb dX4_nextStream_65 rfl ?_
        refine lv_lmul hx hb dX4_nextStream_66 ?_
        refine W.lcmp hx hb dX4_nextStream_67 ?_
        refine lv_if_ge (tgt := 75) hx hb dX4_nextStream_68 (by decide) (fun c11 => ?_) (fun c11 => ?_)
        · skip
          refine lv_iconst (v := nI 0) hx hb dX4_nextStream_75 (by decide) ?_
          refine lv_istore_n (lv' := [(3, .int (nI 0)), (0, .ref b), (1, .int x5.2), (2, .int (nI i5))]) hx hb dX4_nextStream_76 rfl hl (by decide) rfl (fun ls hl => ?_)
          refine lv_iload_n hx hb dX4_nextStream_77 rfl (lv_at hl 0 rfl) ?_
          refine lv_if_eq (x := nI 0) (tgt := 85) hx hb dX4_nextStream_78 (by decide) (fun _ => ?_) (fun c12 => absurd c12 (by decide))
          refine lv_iload_n hx hb dX4_nextStream_85 rfl (lv_at hl 2 rfl) ?_
          refine lv_istore_n (lv' := [(1, .int x5.2), (3, .int (nI 0)), (0, .ref b), (2, .int (nI i5))]) hx hb dX4_nextStream_86 rfl hl (by decide) rfl (fun ls hl => ?_)
          refine lv_iinc (v := nI (i5 + 1)) (lv' := [(2, .int (nI (i5 + 1))), (1, .int x5.2), (3, .int (nI 0)), (0, .ref b)]) hx hb dX4_nextStream_87 hl (k := 3) rfl (nI_1 _) (by decide) rfl (fun ls hl => ?_)
          refine lv_goto (tgt := 5) hx hb dX4_nextStream_90 (by decide) ?_
          exact stp4 ((fX4_isCandidate_t x5.1 b c e i5).2, x5.2) (by rw [if_pos c6, if_neg c7, if_pos c11]) H locs ls hM hS (lv_sub hl [3, 1, 0] rfl)
        · skip
          refine lv_iconst (v := nI 1) hx hb dX4_nextStream_71 (by decide) ?_
          refine lv_goto (tgt := 76) hx hb dX4_nextStream_72 (by decide) ?_
          refine lv_istore_n (lv' := [(3, .int (nI 1)), (0, .ref b), (1, .int x5.2), (2, .int (nI i5))]) hx hb dX4_nextStream_76 rfl hl (by decide) rfl (fun ls hl => ?_)
          refine lv_iload_n hx hb dX4_nextStream_77 rfl (lv_at hl 0 rfl) ?_
          refine lv_if_eq (x := nI 1) (tgt := 85) hx hb dX4_nextStream_78 (by decide) (fun c13 => absurd c13 (by decide)) (fun _ => ?_)
          refine lv_iload_n hx hb dX4_nextStream_81 rfl (lv_at hl 3 rfl) ?_
          refine lv_goto (tgt := 86) hx hb dX4_nextStream_82 (by decide) ?_
          refine lv_istore_n (lv' := [(1, .int (nI i5)), (3, .int (nI 1)), (0, .ref b), (2, .int (nI i5))]) hx hb dX4_nextStream_86 rfl hl (by decide) rfl (fun ls hl => ?_)
          refine lv_iinc (v := nI (i5 + 1)) (lv' := [(2, .int (nI (i5 + 1))), (1, .int (nI i5)), (3, .int (nI 1)), (0, .ref b)]) hx hb dX4_nextStream_87 hl (k := 3) rfl (nI_1 _) (by decide) rfl (fun ls hl => ?_)
          refine lv_goto (tgt := 5) hx hb dX4_nextStream_90 (by decide) ?_
          exact stp4 ((fX4_isCandidate_t x5.1 b c e i5).2, nI i5) (by rw [if_pos c6, if_neg c7, if_neg c11]) H locs ls hM hS (lv_sub hl [3, 1, 0] rfl)
  · skip
    refine lv_iload_n hx hb dX4_nextStream_5 rfl (lv_at hl 2 rfl) ?_
    refine lv_bipush (v := nI 8) hx hb dX4_nextStream_6 (by decide) ?_
    refine mr_geN (x := 8) (y := 8) (tgt := 93) C0 dX4_nextStream_8 (by decide) (by decide) (by decide) (fun _ => ?_) (fun c14 => absurd c14 (by decide))
    refine lv_iload_n hx hb dX4_nextStream_93 rfl (lv_at hl 1 rfl) ?_
    have eF : ((lp 8 (fun i5 x5 => if (fX4_isCandidate_t x5.1 b c e i5).1 = true then if x5.2 = (-9) then ((fX4_isCandidate_t x5.1 b c e i5).2, nI i5) else if 0 ≤ lg_cmp (((((fX4_isCandidate_t x5.1 b c e i5).2) (b + 1) (16 + i5)).toInt64) * ((((fX4_isCandidate_t x5.1 b c e i5).2) (b + 1) (8 + (x5.2).toNatClampNeg)).toInt64)) (((((fX4_isCandidate_t x5.1 b c e i5).2) (b + 1) (16 + (x5.2).toNatClampNeg)).toInt64) * ((((fX4_isCandidate_t x5.1 b c e i5).2) (b + 1) (8 + i5)).toInt64)) then ((fX4_isCandidate_t x5.1 b c e i5).2, x5.2) else ((fX4_isCandidate_t x5.1 b c e i5).2, nI i5) else ((fX4_isCandidate_t x5.1 b c e i5).2, x5.2)) (I, (-9))).2, (lp 8 (fun i5 x5 => if (fX4_isCandidate_t x5.1 b c e i5).1 = true then if x5.2 = (-9) then ((fX4_isCandidate_t x5.1 b c e i5).2, nI i5) else if 0 ≤ lg_cmp (((((fX4_isCandidate_t x5.1 b c e i5).2) (b + 1) (16 + i5)).toInt64) * ((((fX4_isCandidate_t x5.1 b c e i5).2) (b + 1) (8 + (x5.2).toNatClampNeg)).toInt64)) (((((fX4_isCandidate_t x5.1 b c e i5).2) (b + 1) (16 + (x5.2).toNatClampNeg)).toInt64) * ((((fX4_isCandidate_t x5.1 b c e i5).2) (b + 1) (8 + i5)).toInt64)) then ((fX4_isCandidate_t x5.1 b c e i5).2, x5.2) else ((fX4_isCandidate_t x5.1 b c e i5).2, nI i5) else ((fX4_isCandidate_t x5.1 b c e i5).2, x5.2)) (I, (-9))).1) = fX4_nextStream I b c e := rfl
    exact mr_iret (v := (lp 8 (fun i5 x5 => if (fX4_isCandidate_t x5.1 b c e i5).1 = true then if x5.2 = (-9) then ((fX4_isCandidate_t x5.1 b c e i5).2, nI i5) else if 0 ≤ lg_cmp (((((fX4_isCandidate_t x5.1 b c e i5).2) (b + 1) (16 + i5)).toInt64) * ((((fX4_isCandidate_t x5.1 b c e i5).2) (b + 1) (8 + (x5.2).toNatClampNeg)).toInt64)) (((((fX4_isCandidate_t x5.1 b c e i5).2) (b + 1) (16 + (x5.2).toNatClampNeg)).toInt64) * ((((fX4_isCandidate_t x5.1 b c e i5).2) (b + 1) (8 + i5)).toInt64)) then ((fX4_isCandidate_t x5.1 b c e i5).2, x5.2) else ((fX4_isCandidate_t x5.1 b c e i5).2, nI i5) else ((fX4_isCandidate_t x5.1 b c e i5).2, x5.2)) (I, (-9))).2) C0 hr hlk hQ hS (by rw [← eF]) (by rw [← eF]; exact hM) (Nat.le_refl _) (Nat.le_refl _) dX4_nextStream_94
theorem fX4_nextStream_ne {I : hm_I} {b : Nat} {c : Nat → Nat} {e : Nat → Nat → Nat} {x0 : Nat} (h : x0 ≠ b + 4) : (fX4_nextStream I b c e).2 x0 = I x0 := by
  unfold fX4_nextStream
  refine lp_inv (fun _ (x : hm_I × Int32) => x.1 x0 = I x0) rfl (fun i x _ hx => ?_)
  have hne : (fX4_isCandidate_t x.1 b c e i).2 x0 = I x0 := (fX4_isCandidate_ne h).trans hx
  (try dsimp only)
  repeat' split
  all_goals exact hne
def fX4_waiting (I : hm_I) (b : Nat) : Int32 :=
  (lp 8 (fun i4 x4 => x4 + (I (b + 1) (24 + i4))) (nI 0))
set_option maxHeartbeats 4000000 in
set_option maxRecDepth 100000 in
theorem ctX4_waiting {l : Launch} {D : va_G} {T : Nat → ClassId} {L : List Nat} {A : Nat → Prop} {Sh : hm_S} {I : hm_I} {J : hm_J} {b : Nat} (hMo : IsM L Sh b) :
    Ct l yX4_waiting wsX4_waiting { frames := 0, cells := 0, slots := 0, locals := 0 } 0 0 D T A [.ref b] (hm D T L A Sh I J) (some (.int (fX4_waiting I b))) (hm D T L A Sh I J) := by
  refine Ct.ofW (cc := cX4_waiting) (maxL := 3) (ret := (some .int)) (by decide) rfl (Nat.le_of_ble_eq_true rfl) ?_
  intro p_ e_ s_ m_ args_ below_ meth_ c_ ls R Qq hR hQ C0 hr hlk hname hM hl
  have hx := C0.1.1
  have hb := C0.1.2.1
  have hS : va_S A s_.heap s_.heap [] := va_S.rf
  have hl : lv_has ls 3 [(0, .ref b)] := hl
  refine lv_iconst (v := nI 0) hx hb dX4_waiting_0 (by decide) ?_
  refine lv_istore_n (lv' := [(1, .int (nI 0)), (0, .ref b)]) hx hb dX4_waiting_1 rfl hl (by decide) rfl (fun ls hl => ?_)
  refine lv_iconst (v := nI 0) hx hb dX4_waiting_2 (by decide) ?_
  refine lv_istore_n (lv' := [(2, .int (nI 0)), (1, .int (nI 0)), (0, .ref b)]) hx hb dX4_waiting_3 rfl hl (by decide) rfl (fun ls hl => ?_)
  refine lp_loop (σ := Int32) (fun i4 x4 => ∀ (H : Heap) (locs : List Loc) (ls : Array Slot), hm D T L A Sh I J H → va_S A s_.heap H locs → lv_has ls 3 [(0, .ref b), (1, .int x4), (2, .int (nI i4))] → W p_ l e_ R s_ m_ args_ below_ meth_ c_ H locs 0 0 Qq (F0 m_ 4 ls [])) 8 (fun i4 x4 => x4 + (I (b + 1) (24 + i4))) (nI 0) (fun _ _ => True) trivial (fun _ _ _ _ => trivial) (fun i4 x4 hi1 hv2 k3 H locs ls hM hS hl => ?_) (fun hv2 H locs ls hM hS hl => ?_) _ _ _ hM hS (lv_sub hl [2, 1, 0] rfl)
  · have stp4 : ∀ yy_ : Int32, yy_ = (x4 + (I (b + 1) (24 + i4))) → ∀ (H : Heap) (locs : List Loc) (ls : Array Slot), hm D T L A Sh I J H → va_S A s_.heap H locs → lv_has ls 3 [(0, .ref b), (1, .int yy_), (2, .int (nI (i4 + 1)))] → W p_ l e_ R s_ m_ args_ below_ meth_ c_ H locs 0 0 Qq (F0 m_ 4 ls []) := fun yy_ ey => by rw [ey]; exact k3
    refine lv_iload_n hx hb dX4_waiting_4 rfl (lv_at hl 2 rfl) ?_
    refine lv_bipush (v := nI 8) hx hb dX4_waiting_5 (by decide) ?_
    refine mr_geN (x := i4) (y := 8) (tgt := 28) C0 dX4_waiting_7 (by decide) (by omega) (by omega) (fun c5 => absurd c5 (by omega)) (fun c5 => ?_)
    refine lv_iload_n hx hb dX4_waiting_10 rfl (lv_at hl 1 rfl) ?_
    refine lv_aload_n hx hb dX4_waiting_11 rfl (lv_at hl 0 rfl) ?_
    refine mr_getr (r := b + 1) (TT := TX4) (N := 10) C0 uX4_waiting_X4 hM hMo.1.1 hMo.1.2 rfl 0 (by decide) rfl kX4_waiting_f7 rfl dX4_waiting_12 ?_
    refine lv_bipush (v := nI 24) hx hb dX4_waiting_15 (by decide) ?_
    refine lv_iload_n hx hb dX4_waiting_17 rfl (lv_at hl 2 rfl) ?_
    refine mr_iaddN (z := 24 + i4) C0 rfl dX4_waiting_18 ?_
    refine mr_ialdN (v := I (b + 1) (24 + i4)) C0 hM hMo.2.1.1 hMo.2.1.2 (by decide) (by omega) rfl dX4_waiting_19 ?_
    refine lv_iadd hx hb dX4_waiting_20 ?_
    refine lv_istore_n (lv' := [(1, .int (x4 + (I (b + 1) (24 + i4)))), (0, .ref b), (2, .int (nI i4))]) hx hb dX4_waiting_21 rfl hl (by decide) rfl (fun ls hl => ?_)
    refine lv_iinc (v := nI (i4 + 1)) (lv' := [(2, .int (nI (i4 + 1))), (1, .int (x4 + (I (b + 1) (24 + i4)))), (0, .ref b)]) hx hb dX4_waiting_22 hl (k := 2) rfl (nI_1 _) (by decide) rfl (fun ls hl => ?_)
    refine lv_goto (tgt := 4) hx hb dX4_waiting_25 (by decide) ?_
    exact stp4 (x4 + (I (b + 1) (24 + i4))) rfl H locs ls hM hS (lv_sub hl [2, 1, 0] rfl)
  · skip
    refine lv_iload_n hx hb dX4_waiting_4 rfl (lv_at hl 2 rfl) ?_
    refine lv_bipush (v := nI 8) hx hb dX4_waiting_5 (by decide) ?_
    refine mr_geN (x := 8) (y := 8) (tgt := 28) C0 dX4_waiting_7 (by decide) (by decide) (by decide) (fun _ => ?_) (fun c6 => absurd c6 (by decide))
    refine lv_iload_n hx hb dX4_waiting_28 rfl (lv_at hl 1 rfl) ?_
    have eF : (lp 8 (fun i4 x4 => x4 + (I (b + 1) (24 + i4))) (nI 0)) = fX4_waiting I b := rfl
    exact mr_iret (v := (lp 8 (fun i4 x4 => x4 + (I (b + 1) (24 + i4))) (nI 0))) C0 hr hlk hQ hS (by rw [← eF]) hM (Nat.le_refl _) (Nat.le_refl _) dX4_waiting_29
def fX4_opened (I : hm_I) (b : Nat) : Int32 :=
  (lp 8 (fun i4 x4 => x4 + (I (b + 1) (0 + i4))) (nI 0))
set_option maxHeartbeats 4000000 in
set_option maxRecDepth 100000 in
theorem ctX4_opened {l : Launch} {D : va_G} {T : Nat → ClassId} {L : List Nat} {A : Nat → Prop} {Sh : hm_S} {I : hm_I} {J : hm_J} {b : Nat} (hMo : IsM L Sh b) :
    Ct l yX4_opened wsX4_opened { frames := 0, cells := 0, slots := 0, locals := 0 } 0 0 D T A [.ref b] (hm D T L A Sh I J) (some (.int (fX4_opened I b))) (hm D T L A Sh I J) := by
  refine Ct.ofW (cc := cX4_opened) (maxL := 3) (ret := (some .int)) (by decide) rfl (Nat.le_of_ble_eq_true rfl) ?_
  intro p_ e_ s_ m_ args_ below_ meth_ c_ ls R Qq hR hQ C0 hr hlk hname hM hl
  have hx := C0.1.1
  have hb := C0.1.2.1
  have hS : va_S A s_.heap s_.heap [] := va_S.rf
  have hl : lv_has ls 3 [(0, .ref b)] := hl
  refine lv_iconst (v := nI 0) hx hb dX4_opened_0 (by decide) ?_
  refine lv_istore_n (lv' := [(1, .int (nI 0)), (0, .ref b)]) hx hb dX4_opened_1 rfl hl (by decide) rfl (fun ls hl => ?_)
  refine lv_iconst (v := nI 0) hx hb dX4_opened_2 (by decide) ?_
  refine lv_istore_n (lv' := [(2, .int (nI 0)), (1, .int (nI 0)), (0, .ref b)]) hx hb dX4_opened_3 rfl hl (by decide) rfl (fun ls hl => ?_)
  refine lp_loop (σ := Int32) (fun i4 x4 => ∀ (H : Heap) (locs : List Loc) (ls : Array Slot), hm D T L A Sh I J H → va_S A s_.heap H locs → lv_has ls 3 [(0, .ref b), (1, .int x4), (2, .int (nI i4))] → W p_ l e_ R s_ m_ args_ below_ meth_ c_ H locs 0 0 Qq (F0 m_ 4 ls [])) 8 (fun i4 x4 => x4 + (I (b + 1) (0 + i4))) (nI 0) (fun _ _ => True) trivial (fun _ _ _ _ => trivial) (fun i4 x4 hi1 hv2 k3 H locs ls hM hS hl => ?_) (fun hv2 H locs ls hM hS hl => ?_) _ _ _ hM hS (lv_sub hl [2, 1, 0] rfl)
  · have stp4 : ∀ yy_ : Int32, yy_ = (x4 + (I (b + 1) (0 + i4))) → ∀ (H : Heap) (locs : List Loc) (ls : Array Slot), hm D T L A Sh I J H → va_S A s_.heap H locs → lv_has ls 3 [(0, .ref b), (1, .int yy_), (2, .int (nI (i4 + 1)))] → W p_ l e_ R s_ m_ args_ below_ meth_ c_ H locs 0 0 Qq (F0 m_ 4 ls []) := fun yy_ ey => by rw [ey]; exact k3
    refine lv_iload_n hx hb dX4_opened_4 rfl (lv_at hl 2 rfl) ?_
    refine lv_bipush (v := nI 8) hx hb dX4_opened_5 (by decide) ?_
    refine mr_geN (x := i4) (y := 8) (tgt := 27) C0 dX4_opened_7 (by decide) (by omega) (by omega) (fun c5 => absurd c5 (by omega)) (fun c5 => ?_)
    refine lv_iload_n hx hb dX4_opened_10 rfl (lv_at hl 1 rfl) ?_
    refine lv_aload_n hx hb dX4_opened_11 rfl (lv_at hl 0 rfl) ?_
    refine mr_getr (r := b + 1) (TT := TX4) (N := 10) C0 uX4_opened_X4 hM hMo.1.1 hMo.1.2 rfl 0 (by decide) rfl kX4_opened_f7 rfl dX4_opened_12 ?_
    refine lv_iconst (v := nI 0) hx hb dX4_opened_15 (by decide) ?_
    refine lv_iload_n hx hb dX4_opened_16 rfl (lv_at hl 2 rfl) ?_
    refine mr_iaddN (z := 0 + i4) C0 rfl dX4_opened_17 ?_
    refine mr_ialdN (v := I (b + 1) (0 + i4)) C0 hM hMo.2.1.1 hMo.2.1.2 (by decide) (by omega) rfl dX4_opened_18 ?_
    refine lv_iadd hx hb dX4_opened_19 ?_
    refine lv_istore_n (lv' := [(1, .int (x4 + (I (b + 1) (0 + i4)))), (0, .ref b), (2, .int (nI i4))]) hx hb dX4_opened_20 rfl hl (by decide) rfl (fun ls hl => ?_)
    refine lv_iinc (v := nI (i4 + 1)) (lv' := [(2, .int (nI (i4 + 1))), (1, .int (x4 + (I (b + 1) (0 + i4)))), (0, .ref b)]) hx hb dX4_opened_21 hl (k := 2) rfl (nI_1 _) (by decide) rfl (fun ls hl => ?_)
    refine lv_goto (tgt := 4) hx hb dX4_opened_24 (by decide) ?_
    exact stp4 (x4 + (I (b + 1) (0 + i4))) rfl H locs ls hM hS (lv_sub hl [2, 1, 0] rfl)
  · skip
    refine lv_iload_n hx hb dX4_opened_4 rfl (lv_at hl 2 rfl) ?_
    refine lv_bipush (v := nI 8) hx hb dX4_opened_5 (by decide) ?_
    refine mr_geN (x := 8) (y := 8) (tgt := 27) C0 dX4_opened_7 (by decide) (by decide) (by decide) (fun _ => ?_) (fun c6 => absurd c6 (by decide))
    refine lv_iload_n hx hb dX4_opened_27 rfl (lv_at hl 1 rfl) ?_
    have eF : (lp 8 (fun i4 x4 => x4 + (I (b + 1) (0 + i4))) (nI 0)) = fX4_opened I b := rfl
    exact mr_iret (v := (lp 8 (fun i4 x4 => x4 + (I (b + 1) (0 + i4))) (nI 0))) C0 hr hlk hQ hS (by rw [← eF]) hM (Nat.le_refl _) (Nat.le_refl _) dX4_opened_28
def fX4_openSet (I : hm_I) (b : Nat) : Int32 :=
  (lp 8 (fun i4 x4 => x4 ||| ((I (b + 1) (0 + i4)) <<< ((nI i4) &&& 31))) (nI 0))
set_option maxHeartbeats 4000000 in
set_option maxRecDepth 100000 in
theorem ctX4_openSet {l : Launch} {D : va_G} {T : Nat → ClassId} {L : List Nat} {A : Nat → Prop} {Sh : hm_S} {I : hm_I} {J : hm_J} {b : Nat} (hMo : IsM L Sh b) :
    Ct l yX4_openSet wsX4_openSet { frames := 0, cells := 0, slots := 0, locals := 0 } 0 0 D T A [.ref b] (hm D T L A Sh I J) (some (.int (fX4_openSet I b))) (hm D T L A Sh I J) := by
  refine Ct.ofW (cc := cX4_openSet) (maxL := 3) (ret := (some .int)) (by decide) rfl (Nat.le_of_ble_eq_true rfl) ?_
  intro p_ e_ s_ m_ args_ below_ meth_ c_ ls R Qq hR hQ C0 hr hlk hname hM hl
  have hx := C0.1.1
  have hb := C0.1.2.1
  have hS : va_S A s_.heap s_.heap [] := va_S.rf
  have hl : lv_has ls 3 [(0, .ref b)] := hl
  refine lv_iconst (v := nI 0) hx hb dX4_openSet_0 (by decide) ?_
  refine lv_istore_n (lv' := [(1, .int (nI 0)), (0, .ref b)]) hx hb dX4_openSet_1 rfl hl (by decide) rfl (fun ls hl => ?_)
  refine lv_iconst (v := nI 0) hx hb dX4_openSet_2 (by decide) ?_
  refine lv_istore_n (lv' := [(2, .int (nI 0)), (1, .int (nI 0)), (0, .ref b)]) hx hb dX4_openSet_3 rfl hl (by decide) rfl (fun ls hl => ?_)
  refine lp_loop (σ := Int32) (fun i4 x4 => ∀ (H : Heap) (locs : List Loc) (ls : Array Slot), hm D T L A Sh I J H → va_S A s_.heap H locs → lv_has ls 3 [(0, .ref b), (1, .int x4), (2, .int (nI i4))] → W p_ l e_ R s_ m_ args_ below_ meth_ c_ H locs 0 0 Qq (F0 m_ 4 ls [])) 8 (fun i4 x4 => x4 ||| ((I (b + 1) (0 + i4)) <<< ((nI i4) &&& 31))) (nI 0) (fun _ _ => True) trivial (fun _ _ _ _ => trivial) (fun i4 x4 hi1 hv2 k3 H locs ls hM hS hl => ?_) (fun hv2 H locs ls hM hS hl => ?_) _ _ _ hM hS (lv_sub hl [2, 1, 0] rfl)
  · have stp4 : ∀ yy_ : Int32, yy_ = (x4 ||| ((I (b + 1) (0 + i4)) <<< ((nI i4) &&& 31))) → ∀ (H : Heap) (locs : List Loc) (ls : Array Slot), hm D T L A Sh I J H → va_S A s_.heap H locs → lv_has ls 3 [(0, .ref b), (1, .int yy_), (2, .int (nI (i4 + 1)))] → W p_ l e_ R s_ m_ args_ below_ meth_ c_ H locs 0 0 Qq (F0 m_ 4 ls []) := fun yy_ ey => by rw [ey]; exact k3
    refine lv_iload_n hx hb dX4_openSet_4 rfl (lv_at hl 2 rfl) ?_
    refine lv_bipush (v := nI 8) hx hb dX4_openSet_5 (by decide) ?_
    refine mr_geN (x := i4) (y := 8) (tgt := 29) C0 dX4_openSet_7 (by decide) (by omega) (by omega) (fun c5 => absurd c5 (by omega)) (fun c5 => ?_)
    refine lv_iload_n hx hb dX4_openSet_10 rfl (lv_at hl 1 rfl) ?_
    refine lv_aload_n hx hb dX4_openSet_11 rfl (lv_at hl 0 rfl) ?_
    refine mr_getr (r := b + 1) (TT := TX4) (N := 10) C0 uX4_openSet_X4 hM hMo.1.1 hMo.1.2 rfl 0 (by decide) rfl kX4_openSet_f7 rfl dX4_openSet_12 ?_
    refine lv_iconst (v := nI 0) hx hb dX4_openSet_15 (by decide) ?_
    refine lv_iload_n hx hb dX4_openSet_16 rfl (lv_at hl 2 rfl) ?_
    refine mr_iaddN (z := 0 + i4) C0 rfl dX4_openSet_17 ?_
    refine mr_ialdN (v := I (b + 1) (0 + i4)) C0 hM hMo.2.1.1 hMo.2.1.2 (by decide) (by omega) rfl dX4_openSet_18 ?_
    refine lv_iload_n hx hb dX4_openSet_19 rfl (lv_at hl 2 rfl) ?_
    refine lv_ishl hx hb dX4_openSet_20 ?_
    refine lv_ior hx hb dX4_openSet_21 ?_
    refine lv_istore_n (lv' := [(1, .int (x4 ||| ((I (b + 1) (0 + i4)) <<< ((nI i4) &&& 31)))), (0, .ref b), (2, .int (nI i4))]) hx hb dX4_openSet_22 rfl hl (by decide) rfl (fun ls hl => ?_)
    refine lv_iinc (v := nI (i4 + 1)) (lv' := [(2, .int (nI (i4 + 1))), (1, .int (x4 ||| ((I (b + 1) (0 + i4)) <<< ((nI i4) &&& 31)))), (0, .ref b)]) hx hb dX4_openSet_23 hl (k := 2) rfl (nI_1 _) (by decide) rfl (fun ls hl => ?_)
    refine lv_goto (tgt := 4) hx hb dX4_openSet_26 (by decide) ?_
    exact stp4 (x4 ||| ((I (b + 1) (0 + i4)) <<< ((nI i4) &&& 31))) rfl H locs ls hM hS (lv_sub hl [2, 1, 0] rfl)
  · skip
    refine lv_iload_n hx hb dX4_openSet_4 rfl (lv_at hl 2 rfl) ?_
    refine lv_bipush (v := nI 8) hx hb dX4_openSet_5 (by decide) ?_
    refine mr_geN (x := 8) (y := 8) (tgt := 29) C0 dX4_openSet_7 (by decide) (by decide) (by decide) (fun _ => ?_) (fun c6 => absurd c6 (by decide))
    refine lv_iload_n hx hb dX4_openSet_29 rfl (lv_at hl 1 rfl) ?_
    have eF : (lp 8 (fun i4 x4 => x4 ||| ((I (b + 1) (0 + i4)) <<< ((nI i4) &&& 31))) (nI 0)) = fX4_openSet I b := rfl
    exact mr_iret (v := (lp 8 (fun i4 x4 => x4 ||| ((I (b + 1) (0 + i4)) <<< ((nI i4) &&& 31))) (nI 0))) C0 hr hlk hQ hS (by rw [← eF]) hM (Nat.le_refl _) (Nat.le_refl _) dX4_openSet_30
def fX4_waitingSize (I : hm_I) (b : Nat) (c : Nat → Nat) (s0 : Nat) : Int32 :=
  (lp (c s0) (fun i4 x4 => x4 + (I (b + 1) (32 + 18 * s0 + 3 * i4 + 1))) (nI 0))
set_option maxHeartbeats 4000000 in
set_option maxRecDepth 100000 in
theorem ctX4_waitingSize {l : Launch} {D : va_G} {T : Nat → ClassId} {L : List Nat} {A : Nat → Prop} {Sh : hm_S} {I : hm_I} {J : hm_J} {b : Nat} (hMo : IsM L Sh b) {c : Nat → Nat} {e : Nat → Nat → Nat} {ep lg : Nat} (hWm : WfM (I (b + 1)) c e ep lg) {s0 : Nat} (hs0 : s0 < 8) :
    Ct l yX4_waitingSize wsX4_waitingSize { frames := 1, cells := 0, slots := 0, locals := 23 } 0 0 D T A [.ref b, .int (nI s0)] (hm D T L A Sh I J) (some (.int (fX4_waitingSize I b c s0))) (hm D T L A Sh I J) := by
  refine Ct.ofW (cc := cX4_waitingSize) (maxL := 4) (ret := (some .int)) (by decide) rfl (Nat.le_of_ble_eq_true rfl) ?_
  intro p_ e_ s_ m_ args_ below_ meth_ c_ ls R Qq hR hQ C0 hr hlk hname hM hl
  have hx := C0.1.1
  have hb := C0.1.2.1
  have hS : va_S A s_.heap s_.heap [] := va_S.rf
  have hl : lv_has ls 4 [(0, .ref b), (1, .int (nI s0))] := hl
  refine lv_iconst (v := nI 0) hx hb dX4_waitingSize_0 (by decide) ?_
  refine lv_istore_n (lv' := [(2, .int (nI 0)), (0, .ref b), (1, .int (nI s0))]) hx hb dX4_waitingSize_1 rfl hl (by decide) rfl (fun ls hl => ?_)
  refine lv_iconst (v := nI 0) hx hb dX4_waitingSize_2 (by decide) ?_
  refine lv_istore_n (lv' := [(3, .int (nI 0)), (2, .int (nI 0)), (0, .ref b), (1, .int (nI s0))]) hx hb dX4_waitingSize_3 rfl hl (by decide) rfl (fun ls hl => ?_)
  have hw1 := hWm.1 s0 (by omega)
  have hw1b := hw1.2
  refine lp_loop (σ := Int32) (fun i4 x4 => ∀ (H : Heap) (locs : List Loc) (ls : Array Slot), hm D T L A Sh I J H → va_S A s_.heap H locs → lv_has ls 4 [(0, .ref b), (1, .int (nI s0)), (2, .int x4), (3, .int (nI i4))] → W p_ l e_ R s_ m_ args_ below_ meth_ c_ H locs 0 0 Qq (F0 m_ 4 ls [])) (c s0) (fun i4 x4 => x4 + (I (b + 1) (32 + 18 * s0 + 3 * i4 + 1))) (nI 0) (fun _ _ => True) trivial (fun _ _ _ _ => trivial) (fun i4 x4 hi2 hv3 k4 H locs ls hM hS hl => ?_) (fun hv3 H locs ls hM hS hl => ?_) _ _ _ hM hS (lv_sub hl [2, 3, 1, 0] rfl)
  · have stp5 : ∀ yy_ : Int32, yy_ = (x4 + (I (b + 1) (32 + 18 * s0 + 3 * i4 + 1))) → ∀ (H : Heap) (locs : List Loc) (ls : Array Slot), hm D T L A Sh I J H → va_S A s_.heap H locs → lv_has ls 4 [(0, .ref b), (1, .int (nI s0)), (2, .int yy_), (3, .int (nI (i4 + 1)))] → W p_ l e_ R s_ m_ args_ below_ meth_ c_ H locs 0 0 Qq (F0 m_ 4 ls []) := fun yy_ ey => by rw [ey]; exact k4
    refine lv_iload_n hx hb dX4_waitingSize_4 rfl (lv_at hl 3 rfl) ?_
    refine lv_aload_n hx hb dX4_waitingSize_5 rfl (lv_at hl 0 rfl) ?_
    refine mr_getr (r := b + 1) (TT := TX4) (N := 10) C0 uX4_waitingSize_X4 hM hMo.1.1 hMo.1.2 rfl 0 (by decide) rfl kX4_waitingSize_f7 rfl dX4_waitingSize_6 ?_
    refine lv_bipush (v := nI 24) hx hb dX4_waitingSize_9 (by decide) ?_
    refine lv_iload_n hx hb dX4_waitingSize_11 rfl (lv_at hl 1 rfl) ?_
    refine mr_iaddN (z := 24 + s0) C0 rfl dX4_waitingSize_12 ?_
    refine mr_ialdN (v := nI (c s0)) C0 hM hMo.2.1.1 hMo.2.1.2 (by decide) (by omega) hw1.1 dX4_waitingSize_13 ?_
    refine mr_geN (x := i4) (y := (c s0)) (tgt := 33) C0 dX4_waitingSize_14 (by decide) (by omega) (by omega) (fun c6 => absurd c6 (by omega)) (fun c6 => ?_)
    refine lv_iload_n hx hb dX4_waitingSize_17 rfl (lv_at hl 2 rfl) ?_
    refine lv_aload_n hx hb dX4_waitingSize_18 rfl (lv_at hl 0 rfl) ?_
    refine lv_iload_n hx hb dX4_waitingSize_19 rfl (lv_at hl 1 rfl) ?_
    refine lv_iload_n hx hb dX4_waitingSize_20 rfl (lv_at hl 3 rfl) ?_
    refine lv_iconst (v := nI 1) hx hb dX4_waitingSize_21 (by decide) ?_
    refine mr_callV (As := [.int (nI s0), .int (nI i4), .int (nI 1)]) C0 (ctX4_frameAt_t (I := I) (J := J) (b := b) (s0 := s0) (k0 := i4) (w0 := 1) hMo (by omega)) (cwV 3 C0.1.2.2.2.2 gX4_waitingSize_X4_frameAt rfl rfl rfl (by decide +kernel) (by rw [hR]; exact ⟨Nat.le_of_ble_eq_true rfl, Nat.le_of_ble_eq_true rfl⟩)) hM hMo.1.1 hMo.1.2 rfl rfl hM hS rfl rfl rfl hl.1 (Nat.le_of_ble_eq_true rfl) dX4_waitingSize_22 (by rw [hR]; exact ⟨Nat.zero_le _, Nat.zero_le _⟩) (fun H locs hM hS => ?_)
    refine lv_iadd hx hb dX4_waitingSize_25 ?_
    refine lv_istore_n (lv' := [(2, .int (x4 + (I (b + 1) (32 + 18 * s0 + 3 * i4 + 1)))), (0, .ref b), (1, .int (nI s0)), (3, .int (nI i4))]) hx hb dX4_waitingSize_26 rfl hl (by decide) rfl (fun ls hl => ?_)
    refine lv_iinc (v := nI (i4 + 1)) (lv' := [(3, .int (nI (i4 + 1))), (2, .int (x4 + (I (b + 1) (32 + 18 * s0 + 3 * i4 + 1)))), (0, .ref b), (1, .int (nI s0))]) hx hb dX4_waitingSize_27 hl (k := 3) rfl (nI_1 _) (by decide) rfl (fun ls hl => ?_)
    refine lv_goto (tgt := 4) hx hb dX4_waitingSize_30 (by decide) ?_
    exact stp5 (x4 + (I (b + 1) (32 + 18 * s0 + 3 * i4 + 1))) rfl H locs ls hM hS (lv_sub hl [2, 3, 1, 0] rfl)
  · skip
    refine lv_iload_n hx hb dX4_waitingSize_4 rfl (lv_at hl 3 rfl) ?_
    refine lv_aload_n hx hb dX4_waitingSize_5 rfl (lv_at hl 0 rfl) ?_
    refine mr_getr (r := b + 1) (TT := TX4) (N := 10) C0 uX4_waitingSize_X4 hM hMo.1.1 hMo.1.2 rfl 0 (by decide) rfl kX4_waitingSize_f7 rfl dX4_waitingSize_6 ?_
    refine lv_bipush (v := nI 24) hx hb dX4_waitingSize_9 (by decide) ?_
    refine lv_iload_n hx hb dX4_waitingSize_11 rfl (lv_at hl 1 rfl) ?_
    refine mr_iaddN (z := 24 + s0) C0 rfl dX4_waitingSize_12 ?_
    refine mr_ialdN (v := nI (c s0)) C0 hM hMo.2.1.1 hMo.2.1.2 (by decide) (by omega) hw1.1 dX4_waitingSize_13 ?_
    refine mr_geN (x := (c s0)) (y := (c s0)) (tgt := 33) C0 dX4_waitingSize_14 (by decide) (by omega) (by omega) (fun c7 => ?_) (fun c7 => absurd c7 (by omega))
    refine lv_iload_n hx hb dX4_waitingSize_33 rfl (lv_at hl 2 rfl) ?_
    have eF : (lp (c s0) (fun i4 x4 => x4 + (I (b + 1) (32 + 18 * s0 + 3 * i4 + 1))) (nI 0)) = fX4_waitingSize I b c s0 := rfl
    exact mr_iret (v := (lp (c s0) (fun i4 x4 => x4 + (I (b + 1) (32 + 18 * s0 + 3 * i4 + 1))) (nI 0))) C0 hr hlk hQ hS (by rw [← eF]) hM (Nat.le_refl _) (Nat.le_refl _) dX4_waitingSize_34
def fX4_allWaitingSizes (I : hm_I) (b : Nat) (c : Nat → Nat) : Int32 :=
  (lp 8 (fun i4 x4 => x4 + (fX4_waitingSize I b c i4)) (nI 0))
set_option maxHeartbeats 4000000 in
set_option maxRecDepth 100000 in
theorem ctX4_allWaitingSizes {l : Launch} {D : va_G} {T : Nat → ClassId} {L : List Nat} {A : Nat → Prop} {Sh : hm_S} {I : hm_I} {J : hm_J} {b : Nat} (hMo : IsM L Sh b) {c : Nat → Nat} {e : Nat → Nat → Nat} {ep lg : Nat} (hWm : WfM (I (b + 1)) c e ep lg) :
    Ct l yX4_allWaitingSizes wsX4_allWaitingSizes { frames := 2, cells := 0, slots := 0, locals := 46 } 0 0 D T A [.ref b] (hm D T L A Sh I J) (some (.int (fX4_allWaitingSizes I b c))) (hm D T L A Sh I J) := by
  refine Ct.ofW (cc := cX4_allWaitingSizes) (maxL := 3) (ret := (some .int)) (by decide) rfl (Nat.le_of_ble_eq_true rfl) ?_
  intro p_ e_ s_ m_ args_ below_ meth_ c_ ls R Qq hR hQ C0 hr hlk hname hM hl
  have hx := C0.1.1
  have hb := C0.1.2.1
  have hS : va_S A s_.heap s_.heap [] := va_S.rf
  have hl : lv_has ls 3 [(0, .ref b)] := hl
  refine lv_iconst (v := nI 0) hx hb dX4_allWaitingSizes_0 (by decide) ?_
  refine lv_istore_n (lv' := [(1, .int (nI 0)), (0, .ref b)]) hx hb dX4_allWaitingSizes_1 rfl hl (by decide) rfl (fun ls hl => ?_)
  refine lv_iconst (v := nI 0) hx hb dX4_allWaitingSizes_2 (by decide) ?_
  refine lv_istore_n (lv' := [(2, .int (nI 0)), (1, .int (nI 0)), (0, .ref b)]) hx hb dX4_allWaitingSizes_3 rfl hl (by decide) rfl (fun ls hl => ?_)
  refine lp_loop (σ := Int32) (fun i4 x4 => ∀ (H : Heap) (locs : List Loc) (ls : Array Slot), hm D T L A Sh I J H → va_S A s_.heap H locs → lv_has ls 3 [(0, .ref b), (1, .int x4), (2, .int (nI i4))] → W p_ l e_ R s_ m_ args_ below_ meth_ c_ H locs 0 0 Qq (F0 m_ 4 ls [])) 8 (fun i4 x4 => x4 + (fX4_waitingSize I b c i4)) (nI 0) (fun _ _ => True) trivial (fun _ _ _ _ => trivial) (fun i4 x4 hi1 hv2 k3 H locs ls hM hS hl => ?_) (fun hv2 H locs ls hM hS hl => ?_) _ _ _ hM hS (lv_sub hl [2, 1, 0] rfl)
  · have stp4 : ∀ yy_ : Int32, yy_ = (x4 + (fX4_waitingSize I b c i4)) → ∀ (H : Heap) (locs : List Loc) (ls : Array Slot), hm D T L A Sh I J H → va_S A s_.heap H locs → lv_has ls 3 [(0, .ref b), (1, .int yy_), (2, .int (nI (i4 + 1)))] → W p_ l e_ R s_ m_ args_ below_ meth_ c_ H locs 0 0 Qq (F0 m_ 4 ls []) := fun yy_ ey => by rw [ey]; exact k3
    refine lv_iload_n hx hb dX4_allWaitingSizes_4 rfl (lv_at hl 2 rfl) ?_
    refine lv_bipush (v := nI 8) hx hb dX4_allWaitingSizes_5 (by decide) ?_
    refine mr_geN (x := i4) (y := 8) (tgt := 24) C0 dX4_allWaitingSizes_7 (by decide) (by omega) (by omega) (fun c5 => absurd c5 (by omega)) (fun c5 => ?_)
    refine lv_iload_n hx hb dX4_allWaitingSizes_10 rfl (lv_at hl 1 rfl) ?_
    refine lv_aload_n hx hb dX4_allWaitingSizes_11 rfl (lv_at hl 0 rfl) ?_
    refine lv_iload_n hx hb dX4_allWaitingSizes_12 rfl (lv_at hl 2 rfl) ?_
    refine mr_callV (As := [.int (nI i4)]) C0 (ctX4_waitingSize (I := I) (J := J) (b := b) (s0 := i4) hMo hWm (by omega)) (cwV 1 C0.1.2.2.2.2 gX4_allWaitingSizes_X4_waitingSize rfl rfl rfl (by decide +kernel) (by rw [hR]; exact ⟨Nat.le_of_ble_eq_true rfl, Nat.le_of_ble_eq_true rfl⟩)) hM hMo.1.1 hMo.1.2 rfl rfl hM hS rfl rfl rfl hl.1 (Nat.le_of_ble_eq_true rfl) dX4_allWaitingSizes_13 (by rw [hR]; exact ⟨Nat.zero_le _, Nat.zero_le _⟩) (fun H locs hM hS => ?_)
    refine lv_iadd hx hb dX4_allWaitingSizes_16 ?_
    refine lv_istore_n (lv' := [(1, .int (x4 + (fX4_waitingSize I b c i4))), (0, .ref b), (2, .int (nI i4))]) hx hb dX4_allWaitingSizes_17 rfl hl (by decide) rfl (fun ls hl => ?_)
    refine lv_iinc (v := nI (i4 + 1)) (lv' := [(2, .int (nI (i4 + 1))), (1, .int (x4 + (fX4_waitingSize I b c i4))), (0, .ref b)]) hx hb dX4_allWaitingSizes_18 hl (k := 2) rfl (nI_1 _) (by decide) rfl (fun ls hl => ?_)
    refine lv_goto (tgt := 4) hx hb dX4_allWaitingSizes_21 (by decide) ?_
    exact stp4 (x4 + (fX4_waitingSize I b c i4)) rfl H locs ls hM hS (lv_sub hl [2, 1, 0] rfl)
  · skip
    refine lv_iload_n hx hb dX4_allWaitingSizes_4 rfl (lv_at hl 2 rfl) ?_
    refine lv_bipush (v := nI 8) hx hb dX4_allWaitingSizes_5 (by decide) ?_
    refine mr_geN (x := 8) (y := 8) (tgt := 24) C0 dX4_allWaitingSizes_7 (by decide) (by decide) (by decide) (fun _ => ?_) (fun c6 => absurd c6 (by decide))
    refine lv_iload_n hx hb dX4_allWaitingSizes_24 rfl (lv_at hl 1 rfl) ?_
    have eF : (lp 8 (fun i4 x4 => x4 + (fX4_waitingSize I b c i4)) (nI 0)) = fX4_allWaitingSizes I b c := rfl
    exact mr_iret (v := (lp 8 (fun i4 x4 => x4 + (fX4_waitingSize I b c i4)) (nI 0))) C0 hr hlk hQ hS (by rw [← eF]) hM (Nat.le_refl _) (Nat.le_refl _) dX4_allWaitingSizes_25
def fX4_candidates (I : hm_I) (b : Nat) (c : Nat → Nat) (e : Nat → Nat → Nat) : Int32 × hm_I :=
  ((lp 8 (fun i4 x4 => if (fX4_isCandidate_t x4.1 b c e i4).1 = true then ((fX4_isCandidate_t x4.1 b c e i4).2, x4.2 + (nI 1)) else ((fX4_isCandidate_t x4.1 b c e i4).2, x4.2 + (nI 0))) (I, (nI 0))).2, (lp 8 (fun i4 x4 => if (fX4_isCandidate_t x4.1 b c e i4).1 = true then ((fX4_isCandidate_t x4.1 b c e i4).2, x4.2 + (nI 1)) else ((fX4_isCandidate_t x4.1 b c e i4).2, x4.2 + (nI 0))) (I, (nI 0))).1)
set_option maxHeartbeats 4000000 in
set_option maxRecDepth 100000 in
theorem ctX4_candidates {l : Launch} {D : va_G} {T : Nat → ClassId} {L : List Nat} {A : Nat → Prop} {Sh : hm_S} {I : hm_I} {J : hm_J} {b : Nat} (hMo : IsM L Sh b) {c : Nat → Nat} {e : Nat → Nat → Nat} {ep lg : Nat} (hWm : WfM (I (b + 1)) c e ep lg) :
    Ct l yX4_candidates wsX4_candidates { frames := 4, cells := 0, slots := 0, locals := 90 } 0 0 D T A [.ref b] (hm D T L A Sh I J) (some (.int ((fX4_candidates I b c e).1))) (hm D T L A Sh ((fX4_candidates I b c e).2) J) := by
  refine Ct.ofW (cc := cX4_candidates) (maxL := 3) (ret := (some .int)) (by decide) rfl (Nat.le_of_ble_eq_true rfl) ?_
  intro p_ e_ s_ m_ args_ below_ meth_ c_ ls R Qq hR hQ C0 hr hlk hname hM hl
  have hx := C0.1.1
  have hb := C0.1.2.1
  have hS : va_S A s_.heap s_.heap [] := va_S.rf
  have hl : lv_has ls 3 [(0, .ref b)] := hl
  refine lv_iconst (v := nI 0) hx hb dX4_candidates_0 (by decide) ?_
  refine lv_istore_n (lv' := [(1, .int (nI 0)), (0, .ref b)]) hx hb dX4_candidates_1 rfl hl (by decide) rfl (fun ls hl => ?_)
  refine lv_iconst (v := nI 0) hx hb dX4_candidates_2 (by decide) ?_
  refine lv_istore_n (lv' := [(2, .int (nI 0)), (1, .int (nI 0)), (0, .ref b)]) hx hb dX4_candidates_3 rfl hl (by decide) rfl (fun ls hl => ?_)
  refine lp_loop (σ := hm_I × Int32) (fun i4 x4 => ∀ (H : Heap) (locs : List Loc) (ls : Array Slot), hm D T L A Sh x4.1 J H → va_S A s_.heap H locs → lv_has ls 3 [(0, .ref b), (1, .int x4.2), (2, .int (nI i4))] → W p_ l e_ R s_ m_ args_ below_ meth_ c_ H locs 0 0 Qq (F0 m_ 4 ls [])) 8 (fun i4 x4 => if (fX4_isCandidate_t x4.1 b c e i4).1 = true then ((fX4_isCandidate_t x4.1 b c e i4).2, x4.2 + (nI 1)) else ((fX4_isCandidate_t x4.1 b c e i4).2, x4.2 + (nI 0))) (I, (nI 0)) (fun (i4 : Nat) (x4 : hm_I × Int32) => x4.1 (b + 1) = I (b + 1)) rfl (fun i x hi hv => by
    have hne : (fX4_isCandidate_t x.1 b c e i).2 (b + 1) = I (b + 1) := (fX4_isCandidate_ne (by omega)).trans hv
    (try dsimp only)
    repeat' split
    all_goals exact hne) (fun i4 x4 hi1 hv2 k3 H locs ls hM hS hl => ?_) (fun hv2 H locs ls hM hS hl => ?_) _ _ _ hM hS (lv_sub hl [2, 1, 0] rfl)
  · have stp4 : ∀ yy_ : hm_I × Int32, yy_ = (if (fX4_isCandidate_t x4.1 b c e i4).1 = true then ((fX4_isCandidate_t x4.1 b c e i4).2, x4.2 + (nI 1)) else ((fX4_isCandidate_t x4.1 b c e i4).2, x4.2 + (nI 0))) → ∀ (H : Heap) (locs : List Loc) (ls : Array Slot), hm D T L A Sh yy_.1 J H → va_S A s_.heap H locs → lv_has ls 3 [(0, .ref b), (1, .int yy_.2), (2, .int (nI (i4 + 1)))] → W p_ l e_ R s_ m_ args_ below_ meth_ c_ H locs 0 0 Qq (F0 m_ 4 ls []) := fun yy_ ey => by rw [ey]; exact k3
    refine lv_iload_n hx hb dX4_candidates_4 rfl (lv_at hl 2 rfl) ?_
    refine lv_bipush (v := nI 8) hx hb dX4_candidates_5 (by decide) ?_
    refine mr_geN (x := i4) (y := 8) (tgt := 32) C0 dX4_candidates_7 (by decide) (by omega) (by omega) (fun c5 => absurd c5 (by omega)) (fun c5 => ?_)
    refine lv_iload_n hx hb dX4_candidates_10 rfl (lv_at hl 1 rfl) ?_
    refine lv_aload_n hx hb dX4_candidates_11 rfl (lv_at hl 0 rfl) ?_
    refine lv_iload_n hx hb dX4_candidates_12 rfl (lv_at hl 2 rfl) ?_
    refine mr_callV (As := [.int (nI i4)]) C0 (ctX4_isCandidate_t (I := x4.1) (J := J) (b := b) (s0 := i4) hMo (WfM_eq hv2 hWm) (by omega)) (cwV 1 C0.1.2.2.2.2 gX4_candidates_X4_isCandidate rfl rfl rfl (by decide +kernel) (by rw [hR]; exact ⟨Nat.le_of_ble_eq_true rfl, Nat.le_of_ble_eq_true rfl⟩)) hM hMo.1.1 hMo.1.2 rfl rfl hM hS rfl rfl rfl hl.1 (Nat.le_of_ble_eq_true rfl) dX4_candidates_13 (by rw [hR]; exact ⟨Nat.zero_le _, Nat.zero_le _⟩) (fun H locs hM hS => ?_)
    refine mr_eqB (tgt := 23) C0 dX4_candidates_16 (by decide) (fun c6 => ?_) (fun c6 => ?_)
    · skip
      refine lv_iconst (v := nI 0) hx hb dX4_candidates_23 (by decide) ?_
      refine lv_iadd hx hb dX4_candidates_24 ?_
      refine lv_istore_n (lv' := [(1, .int (x4.2 + (nI 0))), (0, .ref b), (2, .int (nI i4))]) hx hb dX4_candidates_25 rfl hl (by decide) rfl (fun ls hl => ?_)
      refine lv_iinc (v := nI (i4 + 1)) (lv' := [(2, .int (nI (i4 + 1))), (1, .int (x4.2 + (nI 0))), (0, .ref b)]) hx hb dX4_candidates_26 hl (k := 2) rfl (nI_1 _) (by decide) rfl (fun ls hl => ?_)
      refine lv_goto (tgt := 4) hx hb dX4_candidates_29 (by decide) ?_
      exact stp4 ((fX4_isCandidate_t x4.1 b c e i4).2, x4.2 + (nI 0)) (by rw [if_neg (Bool.eq_false_iff.mp c6)]) H locs ls hM hS (lv_sub hl [2, 1, 0] rfl)
    · skip
      refine lv_iconst (v := nI 1) hx hb dX4_candidates_19 (by decide) ?_
      refine lv_goto (tgt := 24) hx hb dX4_candidates_20 (by decide) ?_
      refine lv_iadd hx hb dX4_candidates_24 ?_
      refine lv_istore_n (lv' := [(1, .int (x4.2 + (nI 1))), (0, .ref b), (2, .int (nI i4))]) hx hb dX4_candidates_25 rfl hl (by decide) rfl (fun ls hl => ?_)
      refine lv_iinc (v := nI (i4 + 1)) (lv' := [(2, .int (nI (i4 + 1))), (1, .int (x4.2 + (nI 1))), (0, .ref b)]) hx hb dX4_candidates_26 hl (k := 2) rfl (nI_1 _) (by decide) rfl (fun ls hl => ?_)
      refine lv_goto (tgt := 4) hx hb dX4_candidates_29 (by decide) ?_
      exact stp4 ((fX4_isCandidate_t x4.1 b c e i4).2, x4.2 + (nI 1)) (by rw [if_pos c6]) H locs ls hM hS (lv_sub hl [2, 1, 0] rfl)
  · skip
    refine lv_iload_n hx hb dX4_candidates_4 rfl (lv_at hl 2 rfl) ?_
    refine lv_bipush (v := nI 8) hx hb dX4_candidates_5 (by decide) ?_
    refine mr_geN (x := 8) (y := 8) (tgt := 32) C0 dX4_candidates_7 (by decide) (by decide) (by decide) (fun _ => ?_) (fun c7 => absurd c7 (by decide))
    refine lv_iload_n hx hb dX4_candidates_32 rfl (lv_at hl 1 rfl) ?_
    have eF : ((lp 8 (fun i4 x4 => if (fX4_isCandidate_t x4.1 b c e i4).1 = true then ((fX4_isCandidate_t x4.1 b c e i4).2, x4.2 + (nI 1)) else ((fX4_isCandidate_t x4.1 b c e i4).2, x4.2 + (nI 0))) (I, (nI 0))).2, (lp 8 (fun i4 x4 => if (fX4_isCandidate_t x4.1 b c e i4).1 = true then ((fX4_isCandidate_t x4.1 b c e i4).2, x4.2 + (nI 1)) else ((fX4_isCandidate_t x4.1 b c e i4).2, x4.2 + (nI 0))) (I, (nI 0))).1) = fX4_candidates I b c e := rfl
    exact mr_iret (v := (lp 8 (fun i4 x4 => if (fX4_isCandidate_t x4.1 b c e i4).1 = true then ((fX4_isCandidate_t x4.1 b c e i4).2, x4.2 + (nI 1)) else ((fX4_isCandidate_t x4.1 b c e i4).2, x4.2 + (nI 0))) (I, (nI 0))).2) C0 hr hlk hQ hS (by rw [← eF]) (by rw [← eF]; exact hM) (Nat.le_refl _) (Nat.le_refl _) dX4_candidates_33
theorem fX4_candidates_ne {I : hm_I} {b : Nat} {c : Nat → Nat} {e : Nat → Nat → Nat} {x0 : Nat} (h : x0 ≠ b + 4) : (fX4_candidates I b c e).2 x0 = I x0 := by
  unfold fX4_candidates
  refine lp_inv (fun _ (x : hm_I × Int32) => x.1 x0 = I x0) rfl (fun i x _ hx => ?_)
  have hne : (fX4_isCandidate_t x.1 b c e i).2 x0 = I x0 := (fX4_isCandidate_ne h).trans hx
  (try dsimp only)
  repeat' split
  all_goals exact hne
def fX4_isCommitted (I : hm_I) (b ep : Nat) : Bool :=
  (lp 8 (fun i4 x4 => if I (b + 1) (176 + i4) = I (b + 1) (185 + 8 * ep + i4) then x4 && true else x4 && false) true)
set_option maxHeartbeats 4000000 in
set_option maxRecDepth 100000 in
theorem ctX4_isCommitted {l : Launch} {D : va_G} {T : Nat → ClassId} {L : List Nat} {A : Nat → Prop} {Sh : hm_S} {I : hm_I} {J : hm_J} {b : Nat} (hMo : IsM L Sh b) {c : Nat → Nat} {e : Nat → Nat → Nat} {ep lg : Nat} (hWm : WfM (I (b + 1)) c e ep lg) :
    Ct l yX4_isCommitted wsX4_isCommitted { frames := 1, cells := 0, slots := 0, locals := 20 } 0 0 D T A [.ref b] (hm D T L A Sh I J) (some (.int (bI (fX4_isCommitted I b ep)))) (hm D T L A Sh I J) := by
  refine Ct.ofW (cc := cX4_isCommitted) (maxL := 3) (ret := (some .boolean)) (by decide) rfl (Nat.le_of_ble_eq_true rfl) ?_
  intro p_ e_ s_ m_ args_ below_ meth_ c_ ls R Qq hR hQ C0 hr hlk hname hM hl
  have hx := C0.1.1
  have hb := C0.1.2.1
  have hS : va_S A s_.heap s_.heap [] := va_S.rf
  have hl : lv_has ls 3 [(0, .ref b)] := hl
  refine lv_iconst (v := nI 1) hx hb dX4_isCommitted_0 (by decide) ?_
  refine lv_istore_n (lv' := [(1, .int (nI 1)), (0, .ref b)]) hx hb dX4_isCommitted_1 rfl hl (by decide) rfl (fun ls hl => ?_)
  refine lv_iconst (v := nI 0) hx hb dX4_isCommitted_2 (by decide) ?_
  refine lv_istore_n (lv' := [(2, .int (nI 0)), (1, .int (nI 1)), (0, .ref b)]) hx hb dX4_isCommitted_3 rfl hl (by decide) rfl (fun ls hl => ?_)
  refine lp_loop (σ := Bool) (fun i4 x4 => ∀ (H : Heap) (locs : List Loc) (ls : Array Slot), hm D T L A Sh I J H → va_S A s_.heap H locs → lv_has ls 3 [(0, .ref b), (1, .int (bI x4)), (2, .int (nI i4))] → W p_ l e_ R s_ m_ args_ below_ meth_ c_ H locs 0 0 Qq (F0 m_ 4 ls [])) 8 (fun i4 x4 => if I (b + 1) (176 + i4) = I (b + 1) (185 + 8 * ep + i4) then x4 && true else x4 && false) true (fun _ _ => True) trivial (fun _ _ _ _ => trivial) (fun i4 x4 hi1 hv2 k3 H locs ls hM hS hl => ?_) (fun hv2 H locs ls hM hS hl => ?_) _ _ _ hM hS (lv_sub hl [2, 1, 0] rfl)
  · have stp4 : ∀ yy_ : Bool, yy_ = (if I (b + 1) (176 + i4) = I (b + 1) (185 + 8 * ep + i4) then x4 && true else x4 && false) → ∀ (H : Heap) (locs : List Loc) (ls : Array Slot), hm D T L A Sh I J H → va_S A s_.heap H locs → lv_has ls 3 [(0, .ref b), (1, .int (bI yy_)), (2, .int (nI (i4 + 1)))] → W p_ l e_ R s_ m_ args_ below_ meth_ c_ H locs 0 0 Qq (F0 m_ 4 ls []) := fun yy_ ey => by rw [ey]; exact k3
    refine lv_iload_n hx hb dX4_isCommitted_4 rfl (lv_at hl 2 rfl) ?_
    refine lv_bipush (v := nI 8) hx hb dX4_isCommitted_5 (by decide) ?_
    refine mr_geN (x := i4) (y := 8) (tgt := 55) C0 dX4_isCommitted_7 (by decide) (by omega) (by omega) (fun c5 => absurd c5 (by omega)) (fun c5 => ?_)
    refine lv_iload_n hx hb dX4_isCommitted_10 rfl (lv_at hl 1 rfl) ?_
    refine lv_aload_n hx hb dX4_isCommitted_11 rfl (lv_at hl 0 rfl) ?_
    refine mr_getr (r := b + 1) (TT := TX4) (N := 10) C0 uX4_isCommitted_X4 hM hMo.1.1 hMo.1.2 rfl 0 (by decide) rfl kX4_isCommitted_f7 rfl dX4_isCommitted_12 ?_
    refine lv_sipush (v := nI 176) hx hb dX4_isCommitted_15 (by decide) ?_
    refine lv_iload_n hx hb dX4_isCommitted_18 rfl (lv_at hl 2 rfl) ?_
    refine mr_iaddN (z := 176 + i4) C0 rfl dX4_isCommitted_19 ?_
    refine mr_ialdN (v := I (b + 1) (176 + i4)) C0 hM hMo.2.1.1 hMo.2.1.2 (by decide) (by omega) rfl dX4_isCommitted_20 ?_
    refine lv_aload_n hx hb dX4_isCommitted_21 rfl (lv_at hl 0 rfl) ?_
    refine mr_getr (r := b + 1) (TT := TX4) (N := 10) C0 uX4_isCommitted_X4 hM hMo.1.1 hMo.1.2 rfl 0 (by decide) rfl kX4_isCommitted_f7 rfl dX4_isCommitted_22 ?_
    refine lv_aload_n hx hb dX4_isCommitted_25 rfl (lv_at hl 0 rfl) ?_
    refine mr_getr (r := b + 1) (TT := TX4) (N := 10) C0 uX4_isCommitted_X4 hM hMo.1.1 hMo.1.2 rfl 0 (by decide) rfl kX4_isCommitted_f7 rfl dX4_isCommitted_26 ?_
    refine lv_sipush (v := nI 184) hx hb dX4_isCommitted_29 (by decide) ?_
    have hw6 := hWm.2.2.2.1
    refine mr_ialdN (v := nI ep) C0 hM hMo.2.1.1 hMo.2.1.2 (by decide) (by decide) hWm.2.2.1 dX4_isCommitted_32 ?_
    refine mr_callS (As := [.int (nI ep)]) C0 (ctX4_orderOf_t (I := I) (J := J) (e0 := ep) (by omega)) (va_cwS 1 C0.1.2.2.2.2 gX4_isCommitted_X4_orderOf rfl rfl rfl (by decide +kernel) (by rw [hR]; exact ⟨Nat.le_of_ble_eq_true rfl, Nat.le_of_ble_eq_true rfl⟩)) hM hS rfl rfl rfl hl.1 (Nat.le_of_ble_eq_true rfl) dX4_isCommitted_33 (by rw [hR]; exact ⟨Nat.zero_le _, Nat.zero_le _⟩) (fun H locs hM hS => ?_)
    refine lv_iload_n hx hb dX4_isCommitted_36 rfl (lv_at hl 2 rfl) ?_
    refine mr_iaddN (z := 185 + 8 * ep + i4) C0 rfl dX4_isCommitted_37 ?_
    refine mr_ialdN (v := I (b + 1) (185 + 8 * ep + i4)) C0 hM hMo.2.1.1 hMo.2.1.2 (by decide) (by omega) rfl dX4_isCommitted_38 ?_
    refine lv_icmp_ne (tgt := 46) hx hb dX4_isCommitted_39 (by decide) (fun c7 => ?_) (fun c7 => ?_)
    · skip
      refine lv_iconst (v := nI 0) hx hb dX4_isCommitted_46 (by decide) ?_
      refine mr_top (y := bI false) (by decide) ?_
      refine lv_iand hx hb dX4_isCommitted_47 ?_
      refine mr_top (y := bI (x4 && false)) (bI_and _ _) ?_
      refine lv_istore_n (lv' := [(1, .int (bI (x4 && false))), (0, .ref b), (2, .int (nI i4))]) hx hb dX4_isCommitted_48 rfl hl (by decide) rfl (fun ls hl => ?_)
      refine lv_iinc (v := nI (i4 + 1)) (lv' := [(2, .int (nI (i4 + 1))), (1, .int (bI (x4 && false))), (0, .ref b)]) hx hb dX4_isCommitted_49 hl (k := 2) rfl (nI_1 _) (by decide) rfl (fun ls hl => ?_)
      refine lv_goto (tgt := 4) hx hb dX4_isCommitted_52 (by decide) ?_
      exact stp4 (x4 && false) (by rw [if_neg c7]) H locs ls hM hS (lv_sub hl [2, 1, 0] rfl)
    · skip
      refine lv_iconst (v := nI 1) hx hb dX4_isCommitted_42 (by decide) ?_
      refine lv_goto (tgt := 47) hx hb dX4_isCommitted_43 (by decide) ?_
      refine mr_top (y := bI true) (by decide) ?_
      refine lv_iand hx hb dX4_isCommitted_47 ?_
      refine mr_top (y := bI (x4 && true)) (bI_and _ _) ?_
      refine lv_istore_n (lv' := [(1, .int (bI (x4 && true))), (0, .ref b), (2, .int (nI i4))]) hx hb dX4_isCommitted_48 rfl hl (by decide) rfl (fun ls hl => ?_)
      refine lv_iinc (v := nI (i4 + 1)) (lv' := [(2, .int (nI (i4 + 1))), (1, .int (bI (x4 && true))), (0, .ref b)]) hx hb dX4_isCommitted_49 hl (k := 2) rfl (nI_1 _) (by decide) rfl (fun ls hl => ?_)
      refine lv_goto (tgt := 4) hx hb dX4_isCommitted_52 (by decide) ?_
      exact stp4 (x4 && true) (by rw [if_pos c7]) H locs ls hM hS (lv_sub hl [2, 1, 0] rfl)
  · skip
    refine lv_iload_n hx hb dX4_isCommitted_4 rfl (lv_at hl 2 rfl) ?_
    refine lv_bipush (v := nI 8) hx hb dX4_isCommitted_5 (by decide) ?_
    refine mr_geN (x := 8) (y := 8) (tgt := 55) C0 dX4_isCommitted_7 (by decide) (by decide) (by decide) (fun _ => ?_) (fun c8 => absurd c8 (by decide))
    refine lv_iload_n hx hb dX4_isCommitted_55 rfl (lv_at hl 1 rfl) ?_
    have eF : (lp 8 (fun i4 x4 => if I (b + 1) (176 + i4) = I (b + 1) (185 + 8 * ep + i4) then x4 && true else x4 && false) true) = fX4_isCommitted I b ep := rfl
    exact mr_zret (b := (lp 8 (fun i4 x4 => if I (b + 1) (176 + i4) = I (b + 1) (185 + 8 * ep + i4) then x4 && true else x4 && false) true)) C0 hr hlk hQ hS (by rw [← eF]) hM (Nat.le_refl _) (Nat.le_refl _) dX4_isCommitted_56
def fX4_pairs (I : hm_I) (b : Nat) (u : Int32) : Int32 :=
  (lp 8 (fun i4 x4 => if fX4_has u (nI i4) = true then x4 + (fX4_size ((I (b + 4) i4) &&& u)) else x4 + (nI 0)) (nI 0))
set_option maxHeartbeats 4000000 in
set_option maxRecDepth 100000 in
theorem ctX4_pairs {l : Launch} {D : va_G} {T : Nat → ClassId} {L : List Nat} {A : Nat → Prop} {Sh : hm_S} {I : hm_I} {J : hm_J} {b : Nat} (hMo : IsM L Sh b) {u : Int32} :
    Ct l yX4_pairs wsX4_pairs { frames := 1, cells := 0, slots := 0, locals := 22 } 0 0 D T A [.ref b, .int u] (hm D T L A Sh I J) (some (.int (fX4_pairs I b u))) (hm D T L A Sh I J) := by
  refine Ct.ofW (cc := cX4_pairs) (maxL := 4) (ret := (some .int)) (by decide) rfl (Nat.le_of_ble_eq_true rfl) ?_
  intro p_ e_ s_ m_ args_ below_ meth_ c_ ls R Qq hR hQ C0 hr hlk hname hM hl
  have hx := C0.1.1
  have hb := C0.1.2.1
  have hS : va_S A s_.heap s_.heap [] := va_S.rf
  have hl : lv_has ls 4 [(0, .ref b), (1, .int u)] := hl
  refine lv_iconst (v := nI 0) hx hb dX4_pairs_0 (by decide) ?_
  refine lv_istore_n (lv' := [(2, .int (nI 0)), (0, .ref b), (1, .int u)]) hx hb dX4_pairs_1 rfl hl (by decide) rfl (fun ls hl => ?_)
  refine lv_iconst (v := nI 0) hx hb dX4_pairs_2 (by decide) ?_
  refine lv_istore_n (lv' := [(3, .int (nI 0)), (2, .int (nI 0)), (0, .ref b), (1, .int u)]) hx hb dX4_pairs_3 rfl hl (by decide) rfl (fun ls hl => ?_)
  refine lp_loop (σ := Int32) (fun i4 x4 => ∀ (H : Heap) (locs : List Loc) (ls : Array Slot), hm D T L A Sh I J H → va_S A s_.heap H locs → lv_has ls 4 [(0, .ref b), (1, .int u), (2, .int x4), (3, .int (nI i4))] → W p_ l e_ R s_ m_ args_ below_ meth_ c_ H locs 0 0 Qq (F0 m_ 4 ls [])) 8 (fun i4 x4 => if fX4_has u (nI i4) = true then x4 + (fX4_size ((I (b + 4) i4) &&& u)) else x4 + (nI 0)) (nI 0) (fun _ _ => True) trivial (fun _ _ _ _ => trivial) (fun i4 x4 hi1 hv2 k3 H locs ls hM hS hl => ?_) (fun hv2 H locs ls hM hS hl => ?_) _ _ _ hM hS (lv_sub hl [2, 3, 1, 0] rfl)
  · have stp4 : ∀ yy_ : Int32, yy_ = (if fX4_has u (nI i4) = true then x4 + (fX4_size ((I (b + 4) i4) &&& u)) else x4 + (nI 0)) → ∀ (H : Heap) (locs : List Loc) (ls : Array Slot), hm D T L A Sh I J H → va_S A s_.heap H locs → lv_has ls 4 [(0, .ref b), (1, .int u), (2, .int yy_), (3, .int (nI (i4 + 1)))] → W p_ l e_ R s_ m_ args_ below_ meth_ c_ H locs 0 0 Qq (F0 m_ 4 ls []) := fun yy_ ey => by rw [ey]; exact k3
    refine lv_iload_n hx hb dX4_pairs_4 rfl (lv_at hl 3 rfl) ?_
    refine lv_bipush (v := nI 8) hx hb dX4_pairs_5 (by decide) ?_
    refine mr_geN (x := i4) (y := 8) (tgt := 42) C0 dX4_pairs_7 (by decide) (by omega) (by omega) (fun c5 => absurd c5 (by omega)) (fun c5 => ?_)
    refine lv_iload_n hx hb dX4_pairs_10 rfl (lv_at hl 2 rfl) ?_
    refine lv_iload_n hx hb dX4_pairs_11 rfl (lv_at hl 1 rfl) ?_
    refine lv_iload_n hx hb dX4_pairs_12 rfl (lv_at hl 3 rfl) ?_
    refine mr_callS (As := [.int u, .int (nI i4)]) C0 (ctX4_has (I := I) (J := J) (u := u) (s0 := (nI i4)) ) (va_cwS 2 C0.1.2.2.2.2 gX4_pairs_X4_has rfl rfl rfl (by decide +kernel) (by rw [hR]; exact ⟨Nat.le_of_ble_eq_true rfl, Nat.le_of_ble_eq_true rfl⟩)) hM hS rfl rfl rfl hl.1 (Nat.le_of_ble_eq_true rfl) dX4_pairs_13 (by rw [hR]; exact ⟨Nat.zero_le _, Nat.zero_le _⟩) (fun H locs hM hS => ?_)
    refine mr_eqB (tgt := 33) C0 dX4_pairs_16 (by decide) (fun c6 => ?_) (fun c6 => ?_)
    · skip
      refine lv_iconst (v := nI 0) hx hb dX4_pairs_33 (by decide) ?_
      refine lv_iadd hx hb dX4_pairs_34 ?_
      refine lv_istore_n (lv' := [(2, .int (x4 + (nI 0))), (0, .ref b), (1, .int u), (3, .int (nI i4))]) hx hb dX4_pairs_35 rfl hl (by decide) rfl (fun ls hl => ?_)
      refine lv_iinc (v := nI (i4 + 1)) (lv' := [(3, .int (nI (i4 + 1))), (2, .int (x4 + (nI 0))), (0, .ref b), (1, .int u)]) hx hb dX4_pairs_36 hl (k := 3) rfl (nI_1 _) (by decide) rfl (fun ls hl => ?_)
      refine lv_goto (tgt := 4) hx hb dX4_pairs_39 (by decide) ?_
      exact stp4 (x4 + (nI 0)) (by rw [if_neg (Bool.eq_false_iff.mp c6)]) H locs ls hM hS (lv_sub hl [2, 3, 1, 0] rfl)
    · skip
      refine lv_aload_n hx hb dX4_pairs_19 rfl (lv_at hl 0 rfl) ?_
      refine mr_getr (r := b + 4) (TT := TX4) (N := 10) C0 uX4_pairs_X4 hM hMo.1.1 hMo.1.2 rfl 5 (by decide) rfl kX4_pairs_f19 rfl dX4_pairs_20 ?_
      refine lv_iload_n hx hb dX4_pairs_23 rfl (lv_at hl 3 rfl) ?_
      refine mr_ialdN (v := I (b + 4) i4) C0 hM hMo.2.2.2.2.1.1 hMo.2.2.2.2.1.2 (by decide) (by omega) rfl dX4_pairs_24 ?_
      refine lv_iload_n hx hb dX4_pairs_25 rfl (lv_at hl 1 rfl) ?_
      refine lv_iand hx hb dX4_pairs_26 ?_
      refine mr_callS (As := [.int ((I (b + 4) i4) &&& u)]) C0 (ctX4_size (I := I) (J := J) (u := ((I (b + 4) i4) &&& u)) ) (va_cwS 1 C0.1.2.2.2.2 gX4_pairs_X4_size rfl rfl rfl (by decide +kernel) (by rw [hR]; exact ⟨Nat.le_of_ble_eq_true rfl, Nat.le_of_ble_eq_true rfl⟩)) hM hS rfl rfl rfl hl.1 (Nat.le_of_ble_eq_true rfl) dX4_pairs_27 (by rw [hR]; exact ⟨Nat.zero_le _, Nat.zero_le _⟩) (fun H locs hM hS => ?_)
      refine lv_goto (tgt := 34) hx hb dX4_pairs_30 (by decide) ?_
      refine lv_iadd hx hb dX4_pairs_34 ?_
      refine lv_istore_n (lv' := [(2, .int (x4 + (fX4_size ((I (b + 4) i4) &&& u)))), (0, .ref b), (1, .int u), (3, .int (nI i4))]) hx hb dX4_pairs_35 rfl hl (by decide) rfl (fun ls hl => ?_)
      refine lv_iinc (v := nI (i4 + 1)) (lv' := [(3, .int (nI (i4 + 1))), (2, .int (x4 + (fX4_size ((I (b + 4) i4) &&& u)))), (0, .ref b), (1, .int u)]) hx hb dX4_pairs_36 hl (k := 3) rfl (nI_1 _) (by decide) rfl (fun ls hl => ?_)
      refine lv_goto (tgt := 4) hx hb dX4_pairs_39 (by decide) ?_
      exact stp4 (x4 + (fX4_size ((I (b + 4) i4) &&& u))) (by rw [if_pos c6]) H locs ls hM hS (lv_sub hl [2, 3, 1, 0] rfl)
  · skip
    refine lv_iload_n hx hb dX4_pairs_4 rfl (lv_at hl 3 rfl) ?_
    refine lv_bipush (v := nI 8) hx hb dX4_pairs_5 (by decide) ?_
    refine mr_geN (x := 8) (y := 8) (tgt := 42) C0 dX4_pairs_7 (by decide) (by decide) (by decide) (fun _ => ?_) (fun c7 => absurd c7 (by decide))
    refine lv_iload_n hx hb dX4_pairs_42 rfl (lv_at hl 2 rfl) ?_
    have eF : (lp 8 (fun i4 x4 => if fX4_has u (nI i4) = true then x4 + (fX4_size ((I (b + 4) i4) &&& u)) else x4 + (nI 0)) (nI 0)) = fX4_pairs I b u := rfl
    exact mr_iret (v := (lp 8 (fun i4 x4 => if fX4_has u (nI i4) = true then x4 + (fX4_size ((I (b + 4) i4) &&& u)) else x4 + (nI 0)) (nI 0))) C0 hr hlk hQ hS (by rw [← eF]) hM (Nat.le_refl _) (Nat.le_refl _) dX4_pairs_43
def fX4_longest_L39 (I : hm_I) (b : Nat) (u : Int32) (i4 : Nat) (x4 : hm_I × Int32) (i13 : Nat) (x13 : hm_I × Int32) (i39 : Nat) (x39 : Int32) : hm_I × Int32 ⊕ (Int32) :=
  if x39 ≤ 0 then if x39 ≤ x13.2 then Sum.inl (hm_put x13.1 (b + 7) i13 x39, x13.2) else Sum.inl (hm_put x13.1 (b + 7) i13 x39, x39) else if i4 = 0 then Sum.inr x39 else if fX4_has u (nI i39) = true then if fX4_has (x13.1 (b + 4) i39) (nI i13) = true then if (x13.1 (b + 7) i39) + (nI 1) ≤ x39 then Sum.inr x39 else Sum.inr ((x13.1 (b + 7) i39) + (nI 1)) else Sum.inr x39 else Sum.inr x39
def fX4_longest_L13 (I : hm_I) (b : Nat) (u : Int32) (i4 : Nat) (x4 : hm_I × Int32) (i13 : Nat) (x13 : hm_I × Int32) : hm_I × Int32 :=
  if fX4_has u (nI i13) = true then lpr (fX4_longest_L39 I b u i4 x4 i13 x13) (fun (x39 : Int32) => (if x39 ≤ x13.2 then (hm_put x13.1 (b + 7) i13 x39, x13.2) else (hm_put x13.1 (b + 7) i13 x39, x39) : hm_I × Int32)) 8 0 (nI 1) else lpr (fX4_longest_L39 I b u i4 x4 i13 x13) (fun (x39 : Int32) => (if x39 ≤ x13.2 then (hm_put x13.1 (b + 7) i13 x39, x13.2) else (hm_put x13.1 (b + 7) i13 x39, x39) : hm_I × Int32)) 8 0 (nI 0)
def fX4_longest (I : hm_I) (b : Nat) (u : Int32) : Int32 × hm_I :=
  ((lp 8 (fun i4 x4 => ((lp 8 (fun i13 x13 => fX4_longest_L13 I b u i4 x4 i13 x13) (x4.1, x4.2)).1, (lp 8 (fun i13 x13 => fX4_longest_L13 I b u i4 x4 i13 x13) (x4.1, x4.2)).2)) (I, (nI 0))).2, (lp 8 (fun i4 x4 => ((lp 8 (fun i13 x13 => fX4_longest_L13 I b u i4 x4 i13 x13) (x4.1, x4.2)).1, (lp 8 (fun i13 x13 => fX4_longest_L13 I b u i4 x4 i13 x13) (x4.1, x4.2)).2)) (I, (nI 0))).1)
set_option maxHeartbeats 4000000 in
set_option maxRecDepth 100000 in
theorem ctX4_longest {l : Launch} {D : va_G} {T : Nat → ClassId} {L : List Nat} {A : Nat → Prop} {Sh : hm_S} {I : hm_I} {J : hm_J} {b : Nat} (hMo : IsM L Sh b) {u : Int32} :
    Ct l yX4_longest wsX4_longest { frames := 1, cells := 0, slots := 0, locals := 21 } 0 0 D T A [.ref b, .int u] (hm D T L A Sh I J) (some (.int ((fX4_longest I b u).1))) (hm D T L A Sh ((fX4_longest I b u).2) J) := by
  refine Ct.ofW (cc := cX4_longest) (maxL := 7) (ret := (some .int)) (by decide) rfl (Nat.le_of_ble_eq_true rfl) ?_
  intro p_ e_ s_ m_ args_ below_ meth_ c_ ls R Qq hR hQ C0 hr hlk hname hM hl
  have hx := C0.1.1
  have hb := C0.1.2.1
  have hS : va_S A s_.heap s_.heap [] := va_S.rf
  have hl : lv_has ls 7 [(0, .ref b), (1, .int u)] := hl
  refine lv_iconst (v := nI 0) hx hb dX4_longest_0 (by decide) ?_
  refine lv_istore_n (lv' := [(2, .int (nI 0)), (0, .ref b), (1, .int u)]) hx hb dX4_longest_1 rfl hl (by decide) rfl (fun ls hl => ?_)
  refine lv_iconst (v := nI 0) hx hb dX4_longest_2 (by decide) ?_
  refine lv_istore_n (lv' := [(3, .int (nI 0)), (2, .int (nI 0)), (0, .ref b), (1, .int u)]) hx hb dX4_longest_3 rfl hl (by decide) rfl (fun ls hl => ?_)
  refine lp_loop (σ := hm_I × Int32) (fun i4 x4 => ∀ (H : Heap) (locs : List Loc) (ls : Array Slot), hm D T L A Sh x4.1 J H → va_S A s_.heap H locs → lv_has ls 7 [(0, .ref b), (1, .int u), (2, .int x4.2), (3, .int (nI i4))] → W p_ l e_ R s_ m_ args_ below_ meth_ c_ H locs 0 0 Qq (F0 m_ 4 ls [])) 8 (fun i4 x4 => ((lp 8 (fun i13 x13 => fX4_longest_L13 I b u i4 x4 i13 x13) (x4.1, x4.2)).1, (lp 8 (fun i13 x13 => fX4_longest_L13 I b u i4 x4 i13 x13) (x4.1, x4.2)).2)) (I, (nI 0)) (fun _ _ => True) trivial (fun _ _ _ _ => trivial) (fun i4 x4 hi1 hv2 k3 H locs ls hM hS hl => ?_) (fun hv2 H locs ls hM hS hl => ?_) _ _ _ hM hS (lv_sub hl [2, 3, 1, 0] rfl)
  · have stp4 : ∀ yy_ : hm_I × Int32, yy_ = (((lp 8 (fun i13 x13 => fX4_longest_L13 I b u i4 x4 i13 x13) (x4.1, x4.2)).1, (lp 8 (fun i13 x13 => fX4_longest_L13 I b u i4 x4 i13 x13) (x4.1, x4.2)).2)) → ∀ (H : Heap) (locs : List Loc) (ls : Array Slot), hm D T L A Sh yy_.1 J H → va_S A s_.heap H locs → lv_has ls 7 [(0, .ref b), (1, .int u), (2, .int yy_.2), (3, .int (nI (i4 + 1)))] → W p_ l e_ R s_ m_ args_ below_ meth_ c_ H locs 0 0 Qq (F0 m_ 4 ls []) := fun yy_ ey => by rw [ey]; exact k3
    refine lv_iload_n hx hb dX4_longest_4 rfl (lv_at hl 3 rfl) ?_
    refine lv_bipush (v := nI 8) hx hb dX4_longest_5 (by decide) ?_
    refine mr_geN (x := i4) (y := 8) (tgt := 149) C0 dX4_longest_7 (by decide) (by omega) (by omega) (fun c5 => absurd c5 (by omega)) (fun c5 => ?_)
    refine lv_iconst (v := nI 0) hx hb dX4_longest_10 (by decide) ?_
    refine lv_istore (lv' := [(4, .int (nI 0)), (0, .ref b), (1, .int u), (2, .int x4.2), (3, .int (nI i4))]) hx hb dX4_longest_11 hl (by decide) rfl (fun ls hl => ?_)
    refine lp_loop (σ := hm_I × Int32) (fun i13 x13 => ∀ (H : Heap) (locs : List Loc) (ls : Array Slot), hm D T L A Sh x13.1 J H → va_S A s_.heap H locs → lv_has ls 7 [(0, .ref b), (1, .int u), (2, .int x13.2), (3, .int (nI i4)), (4, .int (nI i13))] → W p_ l e_ R s_ m_ args_ below_ meth_ c_ H locs 0 0 Qq (F0 m_ 13 ls [])) 8 (fun i13 x13 => fX4_longest_L13 I b u i4 x4 i13 x13) (x4.1, x4.2) (fun _ _ => True) trivial (fun _ _ _ _ => trivial) (fun i13 x13 hi6 hv7 k8 H locs ls hM hS hl => ?_) (fun hv7 H locs ls hM hS hl => ?_) _ _ _ hM hS (lv_sub hl [1, 2, 3, 4, 0] rfl)
    · have stp9 : ∀ yy_ : hm_I × Int32, yy_ = (fX4_longest_L13 I b u i4 x4 i13 x13) → ∀ (H : Heap) (locs : List Loc) (ls : Array Slot), hm D T L A Sh yy_.1 J H → va_S A s_.heap H locs → lv_has ls 7 [(0, .ref b), (1, .int u), (2, .int yy_.2), (3, .int (nI i4)), (4, .int (nI (i13 + 1)))] → W p_ l e_ R s_ m_ args_ below_ meth_ c_ H locs 0 0 Qq (F0 m_ 13 ls []) := fun yy_ ey => by rw [ey]; exact k8
      refine lv_iload hx hb dX4_longest_13 (lv_at hl 4 rfl) ?_
      refine lv_bipush (v := nI 8) hx hb dX4_longest_15 (by decide) ?_
      refine mr_geN (x := i13) (y := 8) (tgt := 143) C0 dX4_longest_17 (by decide) (by omega) (by omega) (fun c10 => absurd c10 (by omega)) (fun c10 => ?_)
      refine lv_iload_n hx hb dX4_longest_20 rfl (lv_at hl 1 rfl) ?_
      refine lv_iload hx hb dX4_longest_21 (lv_at hl 4 rfl) ?_
      refine mr_callS (As := [.int u, .int (nI i13)]) C0 (ctX4_has (I := x13.1) (J := J) (u := u) (s0 := (nI i13)) ) (va_cwS 2 C0.1.2.2.2.2 gX4_longest_X4_has rfl rfl rfl (by decide +kernel) (by rw [hR]; exact ⟨Nat.le_of_ble_eq_true rfl, Nat.le_of_ble_eq_true rfl⟩)) hM hS rfl rfl rfl hl.1 (Nat.le_of_ble_eq_true rfl) dX4_longest_23 (by rw [hR]; exact ⟨Nat.zero_le _, Nat.zero_le _⟩) (fun H locs hM hS => ?_)
      refine mr_eqB (tgt := 33) C0 dX4_longest_26 (by decide) (fun c11 => ?_) (fun c11 => ?_)
      · skip
        refine lv_iconst (v := nI 0) hx hb dX4_longest_33 (by decide) ?_
        refine lv_istore (lv' := [(5, .int (nI 0)), (0, .ref b), (1, .int u), (2, .int x13.2), (3, .int (nI i4)), (4, .int (nI i13))]) hx hb dX4_longest_34 hl (by decide) rfl (fun ls hl => ?_)
        refine lv_iconst (v := nI 0) hx hb dX4_longest_36 (by decide) ?_
        refine lv_istore (lv' := [(6, .int (nI 0)), (5, .int (nI 0)), (0, .ref b), (1, .int u), (2, .int x13.2), (3, .int (nI i4)), (4, .int (nI i13))]) hx hb dX4_longest_37 hl (by decide) rfl (fun ls hl => ?_)
        refine lpr_loop (σ := Int32) (ρ := hm_I × Int32) (fun i39 x39 => ∀ (H : Heap) (locs : List Loc) (ls : Array Slot), hm D T L A Sh x13.1 J H → va_S A s_.heap H locs → lv_has ls 7 [(0, .ref b), (1, .int u), (2, .int x13.2), (3, .int (nI i4)), (4, .int (nI i13)), (5, .int x39), (6, .int (nI i39))] → W p_ l e_ R s_ m_ args_ below_ meth_ c_ H locs 0 0 Qq (F0 m_ 39 ls [])) 8 (fX4_longest_L39 I b u i4 x4 i13 x13) (fun (x39 : Int32) => (if x39 ≤ x13.2 then (hm_put x13.1 (b + 7) i13 x39, x13.2) else (hm_put x13.1 (b + 7) i13 x39, x39) : hm_I × Int32)) (nI 0) (fun _ _ => True) trivial (fun _ _ _ _ _ _ => trivial) (fun i39 x39 hi12 hv13 kv14 k15 H locs ls hM hS hl => ?_) (fun x39 hv13 hd H locs ls hM hS hl => ?_) _ _ _ hM hS (lv_sub hl [2, 3, 4, 5, 6, 1, 0] rfl)
        · skip
          refine lv_iload hx hb dX4_longest_39 (lv_at hl 6 rfl) ?_
          refine lv_bipush (v := nI 8) hx hb dX4_longest_41 (by decide) ?_
          refine mr_geN (x := i39) (y := 8) (tgt := 115) C0 dX4_longest_43 (by decide) (by omega) (by omega) (fun c16 => absurd c16 (by omega)) (fun c16 => ?_)
          refine lv_iload hx hb dX4_longest_46 (lv_at hl 5 rfl) ?_
          refine lv_if_le (tgt := 115) hx hb dX4_longest_48 (by decide) (fun c17 => ?_) (fun c17 => ?_)
          · skip
            refine lv_aload_n hx hb dX4_longest_115 rfl (lv_at hl 0 rfl) ?_
            refine mr_getr (r := b + 7) (TT := TX4) (N := 10) C0 uX4_longest_X4 hM hMo.1.1 hMo.1.2 rfl 8 (by decide) rfl kX4_longest_f28 rfl dX4_longest_116 ?_
            refine lv_iload hx hb dX4_longest_119 (lv_at hl 4 rfl) ?_
            refine lv_iload hx hb dX4_longest_121 (lv_at hl 5 rfl) ?_
            refine mr_iastN C0 hM hS hMo.2.2.2.2.2.2.2.1.1 hMo.2.2.2.2.2.2.2.1.2 (by decide) (by omega) dX4_longest_123 (fun H locs hM hS => ?_)
            refine lv_iload hx hb dX4_longest_124 (lv_at hl 5 rfl) ?_
            refine lv_iload_n hx hb dX4_longest_126 rfl (lv_at hl 2 rfl) ?_
            refine lv_icmp_le (tgt := 135) hx hb dX4_longest_127 (by decide) (fun c18 => ?_) (fun c18 => ?_)
            · skip
              refine lv_iload_n hx hb dX4_longest_135 rfl (lv_at hl 2 rfl) ?_
              refine lv_istore_n (lv' := [(2, .int x13.2), (0, .ref b), (1, .int u), (3, .int (nI i4)), (4, .int (nI i13)), (5, .int x39), (6, .int (nI i39))]) hx hb dX4_longest_136 rfl hl (by decide) rfl (fun ls hl => ?_)
              refine lv_iinc (v := nI (i13 + 1)) (lv' := [(4, .int (nI (i13 + 1))), (2, .int x13.2), (0, .ref b), (1, .int u), (3, .int (nI i4)), (5, .int x39), (6, .int (nI i39))]) hx hb dX4_longest_137 hl (k := 4) rfl (nI_1 _) (by decide) rfl (fun ls hl => ?_)
              refine lv_goto (tgt := 13) hx hb dX4_longest_140 (by decide) ?_
              have hf19 := kv14 (hm_put x13.1 (b + 7) i13 x39, x13.2) (by unfold fX4_longest_L39; rw [if_pos c17, if_pos c18])
              exact stp9 (hm_put x13.1 (b + 7) i13 x39, x13.2) (by unfold fX4_longest_L13; rw [if_neg (Bool.eq_false_iff.mp c11)]; exact hf19) H locs ls hM hS (lv_sub hl [2, 3, 1, 4, 0] rfl)
            · skip
              refine lv_iload hx hb dX4_longest_130 (lv_at hl 5 rfl) ?_
              refine lv_goto (tgt := 136) hx hb dX4_longest_132 (by decide) ?_
              refine lv_istore_n (lv' := [(2, .int x39), (0, .ref b), (1, .int u), (3, .int (nI i4)), (4, .int (nI i13)), (5, .int x39), (6, .int (nI i39))]) hx hb dX4_longest_136 rfl hl (by decide) rfl (fun ls hl => ?_)
              refine lv_iinc (v := nI (i13 + 1)) (lv' := [(4, .int (nI (i13 + 1))), (2, .int x39), (0, .ref b), (1, .int u), (3, .int (nI i4)), (5, .int x39), (6, .int (nI i39))]) hx hb dX4_longest_137 hl (k := 4) rfl (nI_1 _) (by decide) rfl (fun ls hl => ?_)
              refine lv_goto (tgt := 13) hx hb dX4_longest_140 (by decide) ?_
              have hf20 := kv14 (hm_put x13.1 (b + 7) i13 x39, x39) (by unfold fX4_longest_L39; rw [if_pos c17, if_neg c18])
              exact stp9 (hm_put x13.1 (b + 7) i13 x39, x39) (by unfold fX4_longest_L13; rw [if_neg (Bool.eq_false_iff.mp c11)]; exact hf20) H locs ls hM hS (lv_sub hl [2, 3, 1, 4, 0] rfl)
          · skip
            refine lv_iload_n hx hb dX4_longest_51 rfl (lv_at hl 3 rfl) ?_
            refine mr_le0N (x := i4) (tgt := 105) C0 dX4_longest_52 (by decide) (by omega) (fun c21 => ?_) (fun c21 => ?_)
            · skip
              refine lv_iload hx hb dX4_longest_105 (lv_at hl 5 rfl) ?_
              refine lv_istore (lv' := [(5, .int x39), (0, .ref b), (1, .int u), (2, .int x13.2), (3, .int (nI i4)), (4, .int (nI i13)), (6, .int (nI i39))]) hx hb dX4_longest_107 hl (by decide) rfl (fun ls hl => ?_)
              refine lv_iinc (v := nI (i39 + 1)) (lv' := [(6, .int (nI (i39 + 1))), (5, .int x39), (0, .ref b), (1, .int u), (2, .int x13.2), (3, .int (nI i4)), (4, .int (nI i13))]) hx hb dX4_longest_109 hl (k := 6) rfl (nI_1 _) (by decide) rfl (fun ls hl => ?_)
              refine lv_goto (tgt := 39) hx hb dX4_longest_112 (by decide) ?_
              exact k15 x39 (by unfold fX4_longest_L39; rw [if_neg c17, if_pos c21]) H locs ls hM hS (lv_sub hl [2, 3, 4, 5, 6, 1, 0] rfl)
            · skip
              refine lv_iload_n hx hb dX4_longest_55 rfl (lv_at hl 1 rfl) ?_
              refine lv_iload hx hb dX4_longest_56 (lv_at hl 6 rfl) ?_
              refine mr_callS (As := [.int u, .int (nI i39)]) C0 (ctX4_has (I := x13.1) (J := J) (u := u) (s0 := (nI i39)) ) (va_cwS 2 C0.1.2.2.2.2 gX4_longest_X4_has rfl rfl rfl (by decide +kernel) (by rw [hR]; exact ⟨Nat.le_of_ble_eq_true rfl, Nat.le_of_ble_eq_true rfl⟩)) hM hS rfl rfl rfl hl.1 (Nat.le_of_ble_eq_true rfl) dX4_longest_58 (by rw [hR]; exact ⟨Nat.zero_le _, Nat.zero_le _⟩) (fun H locs hM hS => ?_)
              refine mr_eqB (tgt := 105) C0 dX4_longest_61 (by decide) (fun c22 => ?_) (fun c22 => ?_)
              · skip
                refine lv_iload hx hb dX4_longest_105 (lv_at hl 5 rfl) ?_
                refine lv_istore (lv' := [(5, .int x39), (0, .ref b), (1, .int u), (2, .int x13.2), (3, .int (nI i4)), (4, .int (nI i13)), (6, .int (nI i39))]) hx hb dX4_longest_107 hl (by decide) rfl (fun ls hl => ?_)
                refine lv_iinc (v := nI (i39 + 1)) (lv' := [(6, .int (nI (i39 + 1))), (5, .int x39), (0, .ref b), (1, .int u), (2, .int x13.2), (3, .int (nI i4)), (4, .int (nI i13))]) hx hb dX4_longest_109 hl (k := 6) rfl (nI_1 _) (by decide) rfl (fun ls hl => ?_)
                refine lv_goto (tgt := 39) hx hb dX4_longest_112 (by decide) ?_
                exact k15 x39 (by unfold fX4_longest_L39; rw [if_neg c17, if_neg (Nat.ne_of_gt c21), if_neg (Bool.eq_false_iff.mp c22)]) H locs ls hM hS (lv_sub hl [2, 3, 4, 5, 6, 1, 0] rfl)
              · skip
                refine lv_aload_n hx hb dX4_longest_64 rfl (lv_at hl 0 rfl) ?_
                refine mr_getr (r := b + 4) (TT := TX4) (N := 10) C0 uX4_longest_X4 hM hMo.1.1 hMo.1.2 rfl 5 (by decide) rfl kX4_longest_f19 rfl dX4_longest_65 ?_
                refine lv_iload hx hb dX4_longest_68 (lv_at hl 6 rfl) ?_
                refine mr_ialdN (v := x13.1 (b + 4) i39) C0 hM hMo.2.2.2.2.1.1 hMo.2.2.2.2.1.2 (by decide) (by omega) rfl dX4_longest_70 ?_
                refine lv_iload hx hb dX4_longest_71 (lv_at hl 4 rfl) ?_
                refine mr_callS (As := [.int (x13.1 (b + 4) i39), .int (nI i13)]) C0 (ctX4_has (I := x13.1) (J := J) (u := (x13.1 (b + 4) i39)) (s0 := (nI i13)) ) (va_cwS 2 C0.1.2.2.2.2 gX4_longest_X4_has rfl rfl rfl (by decide +kernel) (by rw [hR]; exact ⟨Nat.le_of_ble_eq_true rfl, Nat.le_of_ble_eq_true rfl⟩)) hM hS rfl rfl rfl hl.1 (Nat.le_of_ble_eq_true rfl) dX4_longest_73 (by rw [hR]; exact ⟨Nat.zero_le _, Nat.zero_le _⟩) (fun H locs hM hS => ?_)
                refine mr_eqB (tgt := 105) C0 dX4_longest_76 (by decide) (fun c23 => ?_) (fun c23 => ?_)
                · skip
                  refine lv_iload hx hb dX4_longest_105 (lv_at hl 5 rfl) ?_
                  refine lv_istore (lv' := [(5, .int x39), (0, .ref b), (1, .int u), (2, .int x13.2), (3, .int (nI i4)), (4, .int (nI i13)), (6, .int (nI i39))]) hx hb dX4_longest_107 hl (by decide) rfl (fun ls hl => ?_)
                  refine lv_iinc (v := nI (i39 + 1)) (lv' := [(6, .int (nI (i39 + 1))), (5, .int x39), (0, .ref b), (1, .int u), (2, .int x13.2), (3, .int (nI i4)), (4, .int (nI i13))]) hx hb dX4_longest_109 hl (k := 6) rfl (nI_1 _) (by decide) rfl (fun ls hl => ?_)
                  refine lv_goto (tgt := 39) hx hb dX4_longest_112 (by decide) ?_
                  exact k15 x39 (by unfold fX4_longest_L39; rw [if_neg c17, if_neg (Nat.ne_of_gt c21), if_pos c22, if_neg (Bool.eq_false_iff.mp c23)]) H locs ls hM hS (lv_sub hl [2, 3, 4, 5, 6, 1, 0] rfl)
                · skip
                  refine lv_aload_n hx hb dX4_longest_79 rfl (lv_at hl 0 rfl) ?_
                  refine mr_getr (r := b + 7) (TT := TX4) (N := 10) C0 uX4_longest_X4 hM hMo.1.1 hMo.1.2 rfl 8 (by decide) rfl kX4_longest_f28 rfl dX4_longest_80 ?_
                  refine lv_iload hx hb dX4_longest_83 (lv_at hl 6 rfl) ?_
                  refine mr_ialdN (v := x13.1 (b + 7) i39) C0 hM hMo.2.2.2.2.2.2.2.1.1 hMo.2.2.2.2.2.2.2.1.2 (by decide) (by omega) rfl dX4_longest_85 ?_
                  refine lv_iconst (v := nI 1) hx hb dX4_longest_86 (by decide) ?_
                  refine lv_iadd hx hb dX4_longest_87 ?_
                  refine lv_iload hx hb dX4_longest_88 (lv_at hl 5 rfl) ?_
                  refine lv_icmp_le (tgt := 105) hx hb dX4_longest_90 (by decide) (fun c24 => ?_) (fun c24 => ?_)
                  · skip
                    refine lv_iload hx hb dX4_longest_105 (lv_at hl 5 rfl) ?_
                    refine lv_istore (lv' := [(5, .int x39), (0, .ref b), (1, .int u), (2, .int x13.2), (3, .int (nI i4)), (4, .int (nI i13)), (6, .int (nI i39))]) hx hb dX4_longest_107 hl (by decide) rfl (fun ls hl => ?_)
                    refine lv_iinc (v := nI (i39 + 1)) (lv' := [(6, .int (nI (i39 + 1))), (5, .int x39), (0, .ref b), (1, .int u), (2, .int x13.2), (3, .int (nI i4)), (4, .int (nI i13))]) hx hb dX4_longest_109 hl (k := 6) rfl (nI_1 _) (by decide) rfl (fun ls hl => ?_)
                    refine lv_goto (tgt := 39) hx hb dX4_longest_112 (by decide) ?_
                    exact k15 x39 (by unfold fX4_longest_L39; rw [if_neg c17, if_neg (Nat.ne_of_gt c21), if_pos c22, if_pos c23, if_pos c24]) H locs ls hM hS (lv_sub hl [2, 3, 4, 5, 6, 1, 0] rfl)
                  · skip
                    refine lv_aload_n hx hb dX4_longest_93 rfl (lv_at hl 0 rfl) ?_
                    refine mr_getr (r := b + 7) (TT := TX4) (N := 10) C0 uX4_longest_X4 hM hMo.1.1 hMo.1.2 rfl 8 (by decide) rfl kX4_longest_f28 rfl dX4_longest_94 ?_
                    refine lv_iload hx hb dX4_longest_97 (lv_at hl 6 rfl) ?_
                    refine mr_ialdN (v := x13.1 (b + 7) i39) C0 hM hMo.2.2.2.2.2.2.2.1.1 hMo.2.2.2.2.2.2.2.1.2 (by decide) (by omega) rfl dX4_longest_99 ?_
                    refine lv_iconst (v := nI 1) hx hb dX4_longest_100 (by decide) ?_
                    refine lv_iadd hx hb dX4_longest_101 ?_
                    refine lv_goto (tgt := 107) hx hb dX4_longest_102 (by decide) ?_
                    refine lv_istore (lv' := [(5, .int ((x13.1 (b + 7) i39) + (nI 1))), (0, .ref b), (1, .int u), (2, .int x13.2), (3, .int (nI i4)), (4, .int (nI i13)), (6, .int (nI i39))]) hx hb dX4_longest_107 hl (by decide) rfl (fun ls hl => ?_)
                    refine lv_iinc (v := nI (i39 + 1)) (lv' := [(6, .int (nI (i39 + 1))), (5, .int ((x13.1 (b + 7) i39) + (nI 1))), (0, .ref b), (1, .int u), (2, .int x13.2), (3, .int (nI i4)), (4, .int (nI i13))]) hx hb dX4_longest_109 hl (k := 6) rfl (nI_1 _) (by decide) rfl (fun ls hl => ?_)
                    refine lv_goto (tgt := 39) hx hb dX4_longest_112 (by decide) ?_
                    exact k15 ((x13.1 (b + 7) i39) + (nI 1)) (by unfold fX4_longest_L39; rw [if_neg c17, if_neg (Nat.ne_of_gt c21), if_pos c22, if_pos c23, if_neg c24]) H locs ls hM hS (lv_sub hl [2, 3, 4, 5, 6, 1, 0] rfl)
        · skip
          refine lv_iload hx hb dX4_longest_39 (lv_at hl 6 rfl) ?_
          refine lv_bipush (v := nI 8) hx hb dX4_longest_41 (by decide) ?_
          refine mr_geN (x := 8) (y := 8) (tgt := 115) C0 dX4_longest_43 (by decide) (by decide) (by decide) (fun _ => ?_) (fun c25 => absurd c25 (by decide))
          refine lv_aload_n hx hb dX4_longest_115 rfl (lv_at hl 0 rfl) ?_
          refine mr_getr (r := b + 7) (TT := TX4) (N := 10) C0 uX4_longest_X4 hM hMo.1.1 hMo.1.2 rfl 8 (by decide) rfl kX4_longest_f28 rfl dX4_longest_116 ?_
          refine lv_iload hx hb dX4_longest_119 (lv_at hl 4 rfl) ?_
          refine lv_iload hx hb dX4_longest_121 (lv_at hl 5 rfl) ?_
          refine mr_iastN C0 hM hS hMo.2.2.2.2.2.2.2.1.1 hMo.2.2.2.2.2.2.2.1.2 (by decide) (by omega) dX4_longest_123 (fun H locs hM hS => ?_)
          refine lv_iload hx hb dX4_longest_124 (lv_at hl 5 rfl) ?_
          refine lv_iload_n hx hb dX4_longest_126 rfl (lv_at hl 2 rfl) ?_
          refine lv_icmp_le (tgt := 135) hx hb dX4_longest_127 (by decide) (fun c26 => ?_) (fun c26 => ?_)
          · skip
            refine lv_iload_n hx hb dX4_longest_135 rfl (lv_at hl 2 rfl) ?_
            refine lv_istore_n (lv' := [(2, .int x13.2), (0, .ref b), (1, .int u), (3, .int (nI i4)), (4, .int (nI i13)), (5, .int x39), (6, .int (nI 8))]) hx hb dX4_longest_136 rfl hl (by decide) rfl (fun ls hl => ?_)
            refine lv_iinc (v := nI (i13 + 1)) (lv' := [(4, .int (nI (i13 + 1))), (2, .int x13.2), (0, .ref b), (1, .int u), (3, .int (nI i4)), (5, .int x39), (6, .int (nI 8))]) hx hb dX4_longest_137 hl (k := 4) rfl (nI_1 _) (by decide) rfl (fun ls hl => ?_)
            refine lv_goto (tgt := 13) hx hb dX4_longest_140 (by decide) ?_
            have hf27 := Eq.trans (a := (hm_put x13.1 (b + 7) i13 x39, x13.2)) (by rw [if_pos c26]) hd
            exact stp9 (hm_put x13.1 (b + 7) i13 x39, x13.2) (by unfold fX4_longest_L13; rw [if_neg (Bool.eq_false_iff.mp c11)]; exact hf27) H locs ls hM hS (lv_sub hl [2, 3, 1, 4, 0] rfl)
          · skip
            refine lv_iload hx hb dX4_longest_130 (lv_at hl 5 rfl) ?_
            refine lv_goto (tgt := 136) hx hb dX4_longest_132 (by decide) ?_
            refine lv_istore_n (lv' := [(2, .int x39), (0, .ref b), (1, .int u), (3, .int (nI i4)), (4, .int (nI i13)), (5, .int x39), (6, .int (nI 8))]) hx hb dX4_longest_136 rfl hl (by decide) rfl (fun ls hl => ?_)
            refine lv_iinc (v := nI (i13 + 1)) (lv' := [(4, .int (nI (i13 + 1))), (2, .int x39), (0, .ref b), (1, .int u), (3, .int (nI i4)), (5, .int x39), (6, .int (nI 8))]) hx hb dX4_longest_137 hl (k := 4) rfl (nI_1 _) (by decide) rfl (fun ls hl => ?_)
            refine lv_goto (tgt := 13) hx hb dX4_longest_140 (by decide) ?_
            have hf28 := Eq.trans (a := (hm_put x13.1 (b + 7) i13 x39, x39)) (by rw [if_neg c26]) hd
            exact stp9 (hm_put x13.1 (b + 7) i13 x39, x39) (by unfold fX4_longest_L13; rw [if_neg (Bool.eq_false_iff.mp c11)]; exact hf28) H locs ls hM hS (lv_sub hl [2, 3, 1, 4, 0] rfl)
      · skip
        refine lv_iconst (v := nI 1) hx hb dX4_longest_29 (by decide) ?_
        refine lv_goto (tgt := 34) hx hb dX4_longest_30 (by decide) ?_
        refine lv_istore (lv' := [(5, .int (nI 1)), (0, .ref b), (1, .int u), (2, .int x13.2), (3, .int (nI i4)), (4, .int (nI i13))]) hx hb dX4_longest_34 hl (by decide) rfl (fun ls hl => ?_)
        refine lv_iconst (v := nI 0) hx hb dX4_longest_36 (by decide) ?_
        refine lv_istore (lv' := [(6, .int (nI 0)), (5, .int (nI 1)), (0, .ref b), (1, .int u), (2, .int x13.2), (3, .int (nI i4)), (4, .int (nI i13))]) hx hb dX4_longest_37 hl (by decide) rfl (fun ls hl => ?_)
        refine lpr_loop (σ := Int32) (ρ := hm_I × Int32) (fun i39 x39 => ∀ (H : Heap) (locs : List Loc) (ls : Array Slot), hm D T L A Sh x13.1 J H → va_S A s_.heap H locs → lv_has ls 7 [(0, .ref b), (1, .int u), (2, .int x13.2), (3, .int (nI i4)), (4, .int (nI i13)), (5, .int x39), (6, .int (nI i39))] → W p_ l e_ R s_ m_ args_ below_ meth_ c_ H locs 0 0 Qq (F0 m_ 39 ls [])) 8 (fX4_longest_L39 I b u i4 x4 i13 x13) (fun (x39 : Int32) => (if x39 ≤ x13.2 then (hm_put x13.1 (b + 7) i13 x39, x13.2) else (hm_put x13.1 (b + 7) i13 x39, x39) : hm_I × Int32)) (nI 1) (fun _ _ => True) trivial (fun _ _ _ _ _ _ => trivial) (fun i39 x39 hi29 hv30 kv31 k32 H locs ls hM hS hl => ?_) (fun x39 hv30 hd H locs ls hM hS hl => ?_) _ _ _ hM hS (lv_sub hl [2, 3, 4, 5, 6, 1, 0] rfl)
        · skip
          refine lv_iload hx hb dX4_longest_39 (lv_at hl 6 rfl) ?_
          refine lv_bipush (v := nI 8) hx hb dX4_longest_41 (by decide) ?_
          refine mr_geN (x := i39) (y := 8) (tgt := 115) C0 dX4_longest_43 (by decide) (by omega) (by omega) (fun c33 => absurd c33 (by omega)) (fun c33 => ?_)
          refine lv_iload hx hb dX4_longest_46 (lv_at hl 5 rfl) ?_
          refine lv_if_le (tgt := 115) hx hb dX4_longest_48 (by decide) (fun c34 => ?_) (fun c34 => ?_)
          · skip
            refine lv_aload_n hx hb dX4_longest_115 rfl (lv_at hl 0 rfl) ?_
            refine mr_getr (r := b + 7) (TT := TX4) (N := 10) C0 uX4_longest_X4 hM hMo.1.1 hMo.1.2 rfl 8 (by decide) rfl kX4_longest_f28 rfl dX4_longest_116 ?_
            refine lv_iload hx hb dX4_longest_119 (lv_at hl 4 rfl) ?_
            refine lv_iload hx hb dX4_longest_121 (lv_at hl 5 rfl) ?_
            refine mr_iastN C0 hM hS hMo.2.2.2.2.2.2.2.1.1 hMo.2.2.2.2.2.2.2.1.2 (by decide) (by omega) dX4_longest_123 (fun H locs hM hS => ?_)
            refine lv_iload hx hb dX4_longest_124 (lv_at hl 5 rfl) ?_
            refine lv_iload_n hx hb dX4_longest_126 rfl (lv_at hl 2 rfl) ?_
            refine lv_icmp_le (tgt := 135) hx hb dX4_longest_127 (by decide) (fun c35 => ?_) (fun c35 => ?_)
            · skip
              refine lv_iload_n hx hb dX4_longest_135 rfl (lv_at hl 2 rfl) ?_
              refine lv_istore_n (lv' := [(2, .int x13.2), (0, .ref b), (1, .int u), (3, .int (nI i4)), (4, .int (nI i13)), (5, .int x39), (6, .int (nI i39))]) hx hb dX4_longest_136 rfl hl (by decide) rfl (fun ls hl => ?_)
              refine lv_iinc (v := nI (i13 + 1)) (lv' := [(4, .int (nI (i13 + 1))), (2, .int x13.2), (0, .ref b), (1, .int u), (3, .int (nI i4)), (5, .int x39), (6, .int (nI i39))]) hx hb dX4_longest_137 hl (k := 4) rfl (nI_1 _) (by decide) rfl (fun ls hl => ?_)
              refine lv_goto (tgt := 13) hx hb dX4_longest_140 (by decide) ?_
              have hf36 := kv31 (hm_put x13.1 (b + 7) i13 x39, x13.2) (by unfold fX4_longest_L39; rw [if_pos c34, if_pos c35])
              exact stp9 (hm_put x13.1 (b + 7) i13 x39, x13.2) (by unfold fX4_longest_L13; rw [if_pos c11]; exact hf36) H locs ls hM hS (lv_sub hl [2, 3, 1, 4, 0] rfl)
            · skip
              refine lv_iload hx hb dX4_longest_130 (lv_at hl 5 rfl) ?_
              refine lv_goto (tgt := 136) hx hb dX4_longest_132 (by decide) ?_
              refine lv_istore_n (lv' := [(2, .int x39), (0, .ref b), (1, .int u), (3, .int (nI i4)), (4, .int (nI i13)), (5, .int x39), (6, .int (nI i39))]) hx hb dX4_longest_136 rfl hl (by decide) rfl (fun ls hl => ?_)
              refine lv_iinc (v := nI (i13 + 1)) (lv' := [(4, .int (nI (i13 + 1))), (2, .int x39), (0, .ref b), (1, .int u), (3, .int (nI i4)), (5, .int x39), (6, .int (nI i39))]) hx hb dX4_longest_137 hl (k := 4) rfl (nI_1 _) (by decide) rfl (fun ls hl => ?_)
              refine lv_goto (tgt := 13) hx hb dX4_longest_140 (by decide) ?_
              have hf37 := kv31 (hm_put x13.1 (b + 7) i13 x39, x39) (by unfold fX4_longest_L39; rw [if_pos c34, if_neg c35])
              exact stp9 (hm_put x13.1 (b + 7) i13 x39, x39) (by unfold fX4_longest_L13; rw [if_pos c11]; exact hf37) H locs ls hM hS (lv_sub hl [2, 3, 1, 4, 0] rfl)
          · skip
            refine lv_iload_n hx hb dX4_longest_51 rfl (lv_at hl 3 rfl) ?_
            refine mr_le0N (x := i4) (tgt := 105) C0 dX4_longest_52 (by decide) (by omega) (fun c38 => ?_) (fun c38 => ?_)
            · skip
              refine lv_iload hx hb dX4_longest_105 (lv_at hl 5 rfl) ?_
              refine lv_istore (lv' := [(5, .int x39), (0, .ref b), (1, .int u), (2, .int x13.2), (3, .int (nI i4)), (4, .int (nI i13)), (6, .int (nI i39))]) hx hb dX4_longest_107 hl (by decide) rfl (fun ls hl => ?_)
              refine lv_iinc (v := nI (i39 + 1)) (lv' := [(6, .int (nI (i39 + 1))), (5, .int x39), (0, .ref b), (1, .int u), (2, .int x13.2), (3, .int (nI i4)), (4, .int (nI i13))]) hx hb dX4_longest_109 hl (k := 6) rfl (nI_1 _) (by decide) rfl (fun ls hl => ?_)
              refine lv_goto (tgt := 39) hx hb dX4_longest_112 (by decide) ?_
              exact k32 x39 (by unfold fX4_longest_L39; rw [if_neg c34, if_pos c38]) H locs ls hM hS (lv_sub hl [2, 3, 4, 5, 6, 1, 0] rfl)
            · skip
              refine lv_iload_n hx hb dX4_longest_55 rfl (lv_at hl 1 rfl) ?_
              refine lv_iload hx hb dX4_longest_56 (lv_at hl 6 rfl) ?_
              refine mr_callS (As := [.int u, .int (nI i39)]) C0 (ctX4_has (I := x13.1) (J := J) (u := u) (s0 := (nI i39)) ) (va_cwS 2 C0.1.2.2.2.2 gX4_longest_X4_has rfl rfl rfl (by decide +kernel) (by rw [hR]; exact ⟨Nat.le_of_ble_eq_true rfl, Nat.le_of_ble_eq_true rfl⟩)) hM hS rfl rfl rfl hl.1 (Nat.le_of_ble_eq_true rfl) dX4_longest_58 (by rw [hR]; exact ⟨Nat.zero_le _, Nat.zero_le _⟩) (fun H locs hM hS => ?_)
              refine mr_eqB (tgt := 105) C0 dX4_longest_61 (by decide) (fun c39 => ?_) (fun c39 => ?_)
              · skip
                refine lv_iload hx hb dX4_longest_105 (lv_at hl 5 rfl) ?_
                refine lv_istore (lv' := [(5, .int x39), (0, .ref b), (1, .int u), (2, .int x13.2), (3, .int (nI i4)), (4, .int (nI i13)), (6, .int (nI i39))]) hx hb dX4_longest_107 hl (by decide) rfl (fun ls hl => ?_)
                refine lv_iinc (v := nI (i39 + 1)) (lv' := [(6, .int (nI (i39 + 1))), (5, .int x39), (0, .ref b), (1, .int u), (2, .int x13.2), (3, .int (nI i4)), (4, .int (nI i13))]) hx hb dX4_longest_109 hl (k := 6) rfl (nI_1 _) (by decide) rfl (fun ls hl => ?_)
                refine lv_goto (tgt := 39) hx hb dX4_longest_112 (by decide) ?_
                exact k32 x39 (by unfold fX4_longest_L39; rw [if_neg c34, if_neg (Nat.ne_of_gt c38), if_neg (Bool.eq_false_iff.mp c39)]) H locs ls hM hS (lv_sub hl [2, 3, 4, 5, 6, 1, 0] rfl)
              · skip
                refine lv_aload_n hx hb dX4_longest_64 rfl (lv_at hl 0 rfl) ?_
                refine mr_getr (r := b + 4) (TT := TX4) (N := 10) C0 uX4_longest_X4 hM hMo.1.1 hMo.1.2 rfl 5 (by decide) rfl kX4_longest_f19 rfl dX4_longest_65 ?_
                refine lv_iload hx hb dX4_longest_68 (lv_at hl 6 rfl) ?_
                refine mr_ialdN (v := x13.1 (b + 4) i39) C0 hM hMo.2.2.2.2.1.1 hMo.2.2.2.2.1.2 (by decide) (by omega) rfl dX4_longest_70 ?_
                refine lv_iload hx hb dX4_longest_71 (lv_at hl 4 rfl) ?_
                refine mr_callS (As := [.int (x13.1 (b + 4) i39), .int (nI i13)]) C0 (ctX4_has (I := x13.1) (J := J) (u := (x13.1 (b + 4) i39)) (s0 := (nI i13)) ) (va_cwS 2 C0.1.2.2.2.2 gX4_longest_X4_has rfl rfl rfl (by decide +kernel) (by rw [hR]; exact ⟨Nat.le_of_ble_eq_true rfl, Nat.le_of_ble_eq_true rfl⟩)) hM hS rfl rfl rfl hl.1 (Nat.le_of_ble_eq_true rfl) dX4_longest_73 (by rw [hR]; exact ⟨Nat.zero_le _, Nat.zero_le _⟩) (fun H locs hM hS => ?_)
                refine mr_eqB (tgt := 105) C0 dX4_longest_76 (by decide) (fun c40 => ?_) (fun c40 => ?_)
                · skip
                  refine lv_iload hx hb dX4_longest_105 (lv_at hl 5 rfl) ?_
                  refine lv_istore (lv' := [(5, .int x39), (0, .ref b), (1, .int u), (2, .int x13.2), (3, .int (nI i4)), (4, .int (nI i13)), (6, .int (nI i39))]) hx hb dX4_longest_107 hl (by decide) rfl (fun ls hl => ?_)
                  refine lv_iinc (v := nI (i39 + 1)) (lv' := [(6, .int (nI (i39 + 1))), (5, .int x39), (0, .ref b), (1, .int u), (2, .int x13.2), (3, .int (nI i4)), (4, .int (nI i13))]) hx hb dX4_longest_109 hl (k := 6) rfl (nI_1 _) (by decide) rfl (fun ls hl => ?_)
                  refine lv_goto (tgt := 39) hx hb dX4_longest_112 (by decide) ?_
                  exact k32 x39 (by unfold fX4_longest_L39; rw [if_neg c34, if_neg (Nat.ne_of_gt c38), if_pos c39, if_neg (Bool.eq_false_iff.mp c40)]) H locs ls hM hS (lv_sub hl [2, 3, 4, 5, 6, 1, 0] rfl)
                · skip
                  refine lv_aload_n hx hb dX4_longest_79 rfl (lv_at hl 0 rfl) ?_
                  refine mr_getr (r := b + 7) (TT := TX4) (N := 10) C0 uX4_longest_X4 hM hMo.1.1 hMo.1.2 rfl 8 (by decide) rfl kX4_longest_f28 rfl dX4_longest_80 ?_
                  refine lv_iload hx hb dX4_longest_83 (lv_at hl 6 rfl) ?_
                  refine mr_ialdN (v := x13.1 (b + 7) i39) C0 hM hMo.2.2.2.2.2.2.2.1.1 hMo.2.2.2.2.2.2.2.1.2 (by decide) (by omega) rfl dX4_longest_85 ?_
                  refine lv_iconst (v := nI 1) hx hb dX4_longest_86 (by decide) ?_
                  refine lv_iadd hx hb dX4_longest_87 ?_
                  refine lv_iload hx hb dX4_longest_88 (lv_at hl 5 rfl) ?_
                  refine lv_icmp_le (tgt := 105) hx hb dX4_longest_90 (by decide) (fun c41 => ?_) (fun c41 => ?_)
                  · skip
                    refine lv_iload hx hb dX4_longest_105 (lv_at hl 5 rfl) ?_
                    refine lv_istore (lv' := [(5, .int x39), (0, .ref b), (1, .int u), (2, .int x13.2), (3, .int (nI i4)), (4, .int (nI i13)), (6, .int (nI i39))]) hx hb dX4_longest_107 hl (by decide) rfl (fun ls hl => ?_)
                    refine lv_iinc (v := nI (i39 + 1)) (lv' := [(6, .int (nI (i39 + 1))), (5, .int x39), (0, .ref b), (1, .int u), (2, .int x13.2), (3, .int (nI i4)), (4, .int (nI i13))]) hx hb dX4_longest_109 hl (k := 6) rfl (nI_1 _) (by decide) rfl (fun ls hl => ?_)
                    refine lv_goto (tgt := 39) hx hb dX4_longest_112 (by decide) ?_
                    exact k32 x39 (by unfold fX4_longest_L39; rw [if_neg c34, if_neg (Nat.ne_of_gt c38), if_pos c39, if_pos c40, if_pos c41]) H locs ls hM hS (lv_sub hl [2, 3, 4, 5, 6, 1, 0] rfl)
                  · skip
                    refine lv_aload_n hx hb dX4_longest_93 rfl (lv_at hl 0 rfl) ?_
                    refine mr_getr (r := b + 7) (TT := TX4) (N := 10) C0 uX4_longest_X4 hM hMo.1.1 hMo.1.2 rfl 8 (by decide) rfl kX4_longest_f28 rfl dX4_longest_94 ?_
                    refine lv_iload hx hb dX4_longest_97 (lv_at hl 6 rfl) ?_
                    refine mr_ialdN (v := x13.1 (b + 7) i39) C0 hM hMo.2.2.2.2.2.2.2.1.1 hMo.2.2.2.2.2.2.2.1.2 (by decide) (by omega) rfl dX4_longest_99 ?_
                    refine lv_iconst (v := nI 1) hx hb dX4_longest_100 (by decide) ?_
                    refine lv_iadd hx hb dX4_longest_101 ?_
                    refine lv_goto (tgt := 107) hx hb dX4_longest_102 (by decide) ?_
                    refine lv_istore (lv' := [(5, .int ((x13.1 (b + 7) i39) + (nI 1))), (0, .ref b), (1, .int u), (2, .int x13.2), (3, .int (nI i4)), (4, .int (nI i13)), (6, .int (nI i39))]) hx hb dX4_longest_107 hl (by decide) rfl (fun ls hl => ?_)
                    refine lv_iinc (v := nI (i39 + 1)) (lv' := [(6, .int (nI (i39 + 1))), (5, .int ((x13.1 (b + 7) i39) + (nI 1))), (0, .ref b), (1, .int u), (2, .int x13.2), (3, .int (nI i4)), (4, .int (nI i13))]) hx hb dX4_longest_109 hl (k := 6) rfl (nI_1 _) (by decide) rfl (fun ls hl => ?_)
                    refine lv_goto (tgt := 39) hx hb dX4_longest_112 (by decide) ?_
                    exact k32 ((x13.1 (b + 7) i39) + (nI 1)) (by unfold fX4_longest_L39; rw [if_neg c34, if_neg (Nat.ne_of_gt c38), if_pos c39, if_pos c40, if_neg c41]) H locs ls hM hS (lv_sub hl [2, 3, 4, 5, 6, 1, 0] rfl)
        · skip
          refine lv_iload hx hb dX4_longest_39 (lv_at hl 6 rfl) ?_
          refine lv_bipush (v := nI 8) hx hb dX4_longest_41 (by decide) ?_
          refine mr_geN (x := 8) (y := 8) (tgt := 115) C0 dX4_longest_43 (by decide) (by decide) (by decide) (fun _ => ?_) (fun c42 => absurd c42 (by decide))
          refine lv_aload_n hx hb dX4_longest_115 rfl (lv_at hl 0 rfl) ?_
          refine mr_getr (r := b + 7) (TT := TX4) (N := 10) C0 uX4_longest_X4 hM hMo.1.1 hMo.1.2 rfl 8 (by decide) rfl kX4_longest_f28 rfl dX4_longest_116 ?_
          refine lv_iload hx hb dX4_longest_119 (lv_at hl 4 rfl) ?_
          refine lv_iload hx hb dX4_longest_121 (lv_at hl 5 rfl) ?_
          refine mr_iastN C0 hM hS hMo.2.2.2.2.2.2.2.1.1 hMo.2.2.2.2.2.2.2.1.2 (by decide) (by omega) dX4_longest_123 (fun H locs hM hS => ?_)
          refine lv_iload hx hb dX4_longest_124 (lv_at hl 5 rfl) ?_
          refine lv_iload_n hx hb dX4_longest_126 rfl (lv_at hl 2 rfl) ?_
          refine lv_icmp_le (tgt := 135) hx hb dX4_longest_127 (by decide) (fun c43 => ?_) (fun c43 => ?_)
          · skip
            refine lv_iload_n hx hb dX4_longest_135 rfl (lv_at hl 2 rfl) ?_
            refine lv_istore_n (lv' := [(2, .int x13.2), (0, .ref b), (1, .int u), (3, .int (nI i4)), (4, .int (nI i13)), (5, .int x39), (6, .int (nI 8))]) hx hb dX4_longest_136 rfl hl (by decide) rfl (fun ls hl => ?_)
            refine lv_iinc (v := nI (i13 + 1)) (lv' := [(4, .int (nI (i13 + 1))), (2, .int x13.2), (0, .ref b), (1, .int u), (3, .int (nI i4)), (5, .int x39), (6, .int (nI 8))]) hx hb dX4_longest_137 hl (k := 4) rfl (nI_1 _) (by decide) rfl (fun ls hl => ?_)
            refine lv_goto (tgt := 13) hx hb dX4_longest_140 (by decide) ?_
            have hf44 := Eq.trans (a := (hm_put x13.1 (b + 7) i13 x39, x13.2)) (by rw [if_pos c43]) hd
            exact stp9 (hm_put x13.1 (b + 7) i13 x39, x13.2) (by unfold fX4_longest_L13; rw [if_pos c11]; exact hf44) H locs ls hM hS (lv_sub hl [2, 3, 1, 4, 0] rfl)
          · skip
            refine lv_iload hx hb dX4_longest_130 (lv_at hl 5 rfl) ?_
            refine lv_goto (tgt := 136) hx hb dX4_longest_132 (by decide) ?_
            refine lv_istore_n (lv' := [(2, .int x39), (0, .ref b), (1, .int u), (3, .int (nI i4)), (4, .int (nI i13)), (5, .int x39), (6, .int (nI 8))]) hx hb dX4_longest_136 rfl hl (by decide) rfl (fun ls hl => ?_)
            refine lv_iinc (v := nI (i13 + 1)) (lv' := [(4, .int (nI (i13 + 1))), (2, .int x39), (0, .ref b), (1, .int u), (3, .int (nI i4)), (5, .int x39), (6, .int (nI 8))]) hx hb dX4_longest_137 hl (k := 4) rfl (nI_1 _) (by decide) rfl (fun ls hl => ?_)
            refine lv_goto (tgt := 13) hx hb dX4_longest_140 (by decide) ?_
            have hf45 := Eq.trans (a := (hm_put x13.1 (b + 7) i13 x39, x39)) (by rw [if_neg c43]) hd
            exact stp9 (hm_put x13.1 (b + 7) i13 x39, x39) (by unfold fX4_longest_L13; rw [if_pos c11]; exact hf45) H locs ls hM hS (lv_sub hl [2, 3, 1, 4, 0] rfl)
    · skip
      refine lv_iload hx hb dX4_longest_13 (lv_at hl 4 rfl) ?_
      refine lv_bipush (v := nI 8) hx hb dX4_longest_15 (by decide) ?_
      refine mr_geN (x := 8) (y := 8) (tgt := 143) C0 dX4_longest_17 (by decide) (by decide) (by decide) (fun _ => ?_) (fun c46 => absurd c46 (by decide))
      refine lv_iinc (v := nI (i4 + 1)) (lv' := [(3, .int (nI (i4 + 1))), (0, .ref b), (1, .int u), (2, .int ((lp 8 (fun i13 x13 => fX4_longest_L13 I b u i4 x4 i13 x13) (x4.1, x4.2)).2)), (4, .int (nI 8))]) hx hb dX4_longest_143 hl (k := 3) rfl (nI_1 _) (by decide) rfl (fun ls hl => ?_)
      refine lv_goto (tgt := 4) hx hb dX4_longest_146 (by decide) ?_
      exact stp4 ((lp 8 (fun i13 x13 => fX4_longest_L13 I b u i4 x4 i13 x13) (x4.1, x4.2)).1, (lp 8 (fun i13 x13 => fX4_longest_L13 I b u i4 x4 i13 x13) (x4.1, x4.2)).2) rfl H locs ls hM hS (lv_sub hl [1, 2, 3, 0] rfl)
  · skip
    refine lv_iload_n hx hb dX4_longest_4 rfl (lv_at hl 3 rfl) ?_
    refine lv_bipush (v := nI 8) hx hb dX4_longest_5 (by decide) ?_
    refine mr_geN (x := 8) (y := 8) (tgt := 149) C0 dX4_longest_7 (by decide) (by decide) (by decide) (fun _ => ?_) (fun c47 => absurd c47 (by decide))
    refine lv_iload_n hx hb dX4_longest_149 rfl (lv_at hl 2 rfl) ?_
    have eF : ((lp 8 (fun i4 x4 => ((lp 8 (fun i13 x13 => fX4_longest_L13 I b u i4 x4 i13 x13) (x4.1, x4.2)).1, (lp 8 (fun i13 x13 => fX4_longest_L13 I b u i4 x4 i13 x13) (x4.1, x4.2)).2)) (I, (nI 0))).2, (lp 8 (fun i4 x4 => ((lp 8 (fun i13 x13 => fX4_longest_L13 I b u i4 x4 i13 x13) (x4.1, x4.2)).1, (lp 8 (fun i13 x13 => fX4_longest_L13 I b u i4 x4 i13 x13) (x4.1, x4.2)).2)) (I, (nI 0))).1) = fX4_longest I b u := rfl
    exact mr_iret (v := (lp 8 (fun i4 x4 => ((lp 8 (fun i13 x13 => fX4_longest_L13 I b u i4 x4 i13 x13) (x4.1, x4.2)).1, (lp 8 (fun i13 x13 => fX4_longest_L13 I b u i4 x4 i13 x13) (x4.1, x4.2)).2)) (I, (nI 0))).2) C0 hr hlk hQ hS (by rw [← eF]) (by rw [← eF]; exact hM) (Nat.le_refl _) (Nat.le_refl _) dX4_longest_150
def fX4_widest (I : hm_I) (b : Nat) (u : Int32) : Int32 :=
  (lp 256 (fun i4 x4 => if (nI i4) &&& (u ^^^ (-1)) = 0 then if fX4_pairs I b (nI i4) = 0 then if fX4_size (nI i4) ≤ x4 then x4 else fX4_size (nI i4) else x4 else x4) (nI 0))
set_option maxHeartbeats 4000000 in
set_option maxRecDepth 100000 in
theorem ctX4_widest {l : Launch} {D : va_G} {T : Nat → ClassId} {L : List Nat} {A : Nat → Prop} {Sh : hm_S} {I : hm_I} {J : hm_J} {b : Nat} (hMo : IsM L Sh b) {u : Int32} :
    Ct l yX4_widest wsX4_widest { frames := 2, cells := 0, slots := 0, locals := 45 } 0 0 D T A [.ref b, .int u] (hm D T L A Sh I J) (some (.int (fX4_widest I b u))) (hm D T L A Sh I J) := by
  refine Ct.ofW (cc := cX4_widest) (maxL := 4) (ret := (some .int)) (by decide) rfl (Nat.le_of_ble_eq_true rfl) ?_
  intro p_ e_ s_ m_ args_ below_ meth_ c_ ls R Qq hR hQ C0 hr hlk hname hM hl
  have hx := C0.1.1
  have hb := C0.1.2.1
  have hS : va_S A s_.heap s_.heap [] := va_S.rf
  have hl : lv_has ls 4 [(0, .ref b), (1, .int u)] := hl
  refine lv_iconst (v := nI 0) hx hb dX4_widest_0 (by decide) ?_
  refine lv_istore_n (lv' := [(2, .int (nI 0)), (0, .ref b), (1, .int u)]) hx hb dX4_widest_1 rfl hl (by decide) rfl (fun ls hl => ?_)
  refine lv_iconst (v := nI 0) hx hb dX4_widest_2 (by decide) ?_
  refine lv_istore_n (lv' := [(3, .int (nI 0)), (2, .int (nI 0)), (0, .ref b), (1, .int u)]) hx hb dX4_widest_3 rfl hl (by decide) rfl (fun ls hl => ?_)
  refine lp_loop (σ := Int32) (fun i4 x4 => ∀ (H : Heap) (locs : List Loc) (ls : Array Slot), hm D T L A Sh I J H → va_S A s_.heap H locs → lv_has ls 4 [(0, .ref b), (1, .int u), (2, .int x4), (3, .int (nI i4))] → W p_ l e_ R s_ m_ args_ below_ meth_ c_ H locs 0 0 Qq (F0 m_ 4 ls [])) 256 (fun i4 x4 => if (nI i4) &&& (u ^^^ (-1)) = 0 then if fX4_pairs I b (nI i4) = 0 then if fX4_size (nI i4) ≤ x4 then x4 else fX4_size (nI i4) else x4 else x4) (nI 0) (fun _ _ => True) trivial (fun _ _ _ _ => trivial) (fun i4 x4 hi1 hv2 k3 H locs ls hM hS hl => ?_) (fun hv2 H locs ls hM hS hl => ?_) _ _ _ hM hS (lv_sub hl [2, 3, 1, 0] rfl)
  · have stp4 : ∀ yy_ : Int32, yy_ = (if (nI i4) &&& (u ^^^ (-1)) = 0 then if fX4_pairs I b (nI i4) = 0 then if fX4_size (nI i4) ≤ x4 then x4 else fX4_size (nI i4) else x4 else x4) → ∀ (H : Heap) (locs : List Loc) (ls : Array Slot), hm D T L A Sh I J H → va_S A s_.heap H locs → lv_has ls 4 [(0, .ref b), (1, .int u), (2, .int yy_), (3, .int (nI (i4 + 1)))] → W p_ l e_ R s_ m_ args_ below_ meth_ c_ H locs 0 0 Qq (F0 m_ 4 ls []) := fun yy_ ey => by rw [ey]; exact k3
    refine lv_iload_n hx hb dX4_widest_4 rfl (lv_at hl 3 rfl) ?_
    refine lv_sipush (v := nI 256) hx hb dX4_widest_5 (by decide) ?_
    refine mr_geN (x := i4) (y := 256) (tgt := 50) C0 dX4_widest_8 (by decide) (by omega) (by omega) (fun c5 => absurd c5 (by omega)) (fun c5 => ?_)
    refine lv_iload_n hx hb dX4_widest_11 rfl (lv_at hl 3 rfl) ?_
    refine lv_iload_n hx hb dX4_widest_12 rfl (lv_at hl 1 rfl) ?_
    refine lv_iconst (v := (-1)) hx hb dX4_widest_13 (by decide) ?_
    refine lv_ixor hx hb dX4_widest_14 ?_
    refine lv_iand hx hb dX4_widest_15 ?_
    refine lv_if_ne (tgt := 44) hx hb dX4_widest_16 (by decide) (fun c6 => ?_) (fun c6 => ?_)
    · skip
      refine lv_iinc (v := nI (i4 + 1)) (lv' := [(3, .int (nI (i4 + 1))), (0, .ref b), (1, .int u), (2, .int x4)]) hx hb dX4_widest_44 hl (k := 3) rfl (nI_1 _) (by decide) rfl (fun ls hl => ?_)
      refine lv_goto (tgt := 4) hx hb dX4_widest_47 (by decide) ?_
      exact stp4 x4 (by rw [if_neg c6]) H locs ls hM hS (lv_sub hl [1, 2, 3, 0] rfl)
    · skip
      refine lv_aload_n hx hb dX4_widest_19 rfl (lv_at hl 0 rfl) ?_
      refine lv_iload_n hx hb dX4_widest_20 rfl (lv_at hl 3 rfl) ?_
      refine mr_callV (As := [.int (nI i4)]) C0 (ctX4_pairs (I := I) (J := J) (b := b) (u := (nI i4)) hMo) (cwV 1 C0.1.2.2.2.2 gX4_widest_X4_pairs rfl rfl rfl (by decide +kernel) (by rw [hR]; exact ⟨Nat.le_of_ble_eq_true rfl, Nat.le_of_ble_eq_true rfl⟩)) hM hMo.1.1 hMo.1.2 rfl rfl hM hS rfl rfl rfl hl.1 (Nat.le_of_ble_eq_true rfl) dX4_widest_21 (by rw [hR]; exact ⟨Nat.zero_le _, Nat.zero_le _⟩) (fun H locs hM hS => ?_)
      refine lv_if_ne (tgt := 44) hx hb dX4_widest_24 (by decide) (fun c7 => ?_) (fun c7 => ?_)
      · skip
        refine lv_iinc (v := nI (i4 + 1)) (lv' := [(3, .int (nI (i4 + 1))), (0, .ref b), (1, .int u), (2, .int x4)]) hx hb dX4_widest_44 hl (k := 3) rfl (nI_1 _) (by decide) rfl (fun ls hl => ?_)
        refine lv_goto (tgt := 4) hx hb dX4_widest_47 (by decide) ?_
        exact stp4 x4 (by rw [if_pos c6, if_neg c7]) H locs ls hM hS (lv_sub hl [1, 2, 3, 0] rfl)
      · skip
        refine lv_iload_n hx hb dX4_widest_27 rfl (lv_at hl 3 rfl) ?_
        refine mr_callS (As := [.int (nI i4)]) C0 (ctX4_size (I := I) (J := J) (u := (nI i4)) ) (va_cwS 1 C0.1.2.2.2.2 gX4_widest_X4_size rfl rfl rfl (by decide +kernel) (by rw [hR]; exact ⟨Nat.le_of_ble_eq_true rfl, Nat.le_of_ble_eq_true rfl⟩)) hM hS rfl rfl rfl hl.1 (Nat.le_of_ble_eq_true rfl) dX4_widest_28 (by rw [hR]; exact ⟨Nat.zero_le _, Nat.zero_le _⟩) (fun H locs hM hS => ?_)
        refine lv_iload_n hx hb dX4_widest_31 rfl (lv_at hl 2 rfl) ?_
        refine lv_icmp_le (tgt := 42) hx hb dX4_widest_32 (by decide) (fun c8 => ?_) (fun c8 => ?_)
        · skip
          refine lv_iload_n hx hb dX4_widest_42 rfl (lv_at hl 2 rfl) ?_
          refine lv_istore_n (lv' := [(2, .int x4), (0, .ref b), (1, .int u), (3, .int (nI i4))]) hx hb dX4_widest_43 rfl hl (by decide) rfl (fun ls hl => ?_)
          refine lv_iinc (v := nI (i4 + 1)) (lv' := [(3, .int (nI (i4 + 1))), (2, .int x4), (0, .ref b), (1, .int u)]) hx hb dX4_widest_44 hl (k := 3) rfl (nI_1 _) (by decide) rfl (fun ls hl => ?_)
          refine lv_goto (tgt := 4) hx hb dX4_widest_47 (by decide) ?_
          exact stp4 x4 (by rw [if_pos c6, if_pos c7, if_pos c8]) H locs ls hM hS (lv_sub hl [2, 3, 1, 0] rfl)
        · skip
          refine lv_iload_n hx hb dX4_widest_35 rfl (lv_at hl 3 rfl) ?_
          refine mr_callS (As := [.int (nI i4)]) C0 (ctX4_size (I := I) (J := J) (u := (nI i4)) ) (va_cwS 1 C0.1.2.2.2.2 gX4_widest_X4_size rfl rfl rfl (by decide +kernel) (by rw [hR]; exact ⟨Nat.le_of_ble_eq_true rfl, Nat.le_of_ble_eq_true rfl⟩)) hM hS rfl rfl rfl hl.1 (Nat.le_of_ble_eq_true rfl) dX4_widest_36 (by rw [hR]; exact ⟨Nat.zero_le _, Nat.zero_le _⟩) (fun H locs hM hS => ?_)
          refine lv_goto (tgt := 43) hx hb dX4_widest_39 (by decide) ?_
          refine lv_istore_n (lv' := [(2, .int (fX4_size (nI i4))), (0, .ref b), (1, .int u), (3, .int (nI i4))]) hx hb dX4_widest_43 rfl hl (by decide) rfl (fun ls hl => ?_)
          refine lv_iinc (v := nI (i4 + 1)) (lv' := [(3, .int (nI (i4 + 1))), (2, .int (fX4_size (nI i4))), (0, .ref b), (1, .int u)]) hx hb dX4_widest_44 hl (k := 3) rfl (nI_1 _) (by decide) rfl (fun ls hl => ?_)
          refine lv_goto (tgt := 4) hx hb dX4_widest_47 (by decide) ?_
          exact stp4 (fX4_size (nI i4)) (by rw [if_pos c6, if_pos c7, if_neg c8]) H locs ls hM hS (lv_sub hl [2, 3, 1, 0] rfl)
  · skip
    refine lv_iload_n hx hb dX4_widest_4 rfl (lv_at hl 3 rfl) ?_
    refine lv_sipush (v := nI 256) hx hb dX4_widest_5 (by decide) ?_
    refine mr_geN (x := 256) (y := 256) (tgt := 50) C0 dX4_widest_8 (by decide) (by decide) (by decide) (fun _ => ?_) (fun c9 => absurd c9 (by decide))
    refine lv_iload_n hx hb dX4_widest_50 rfl (lv_at hl 2 rfl) ?_
    have eF : (lp 256 (fun i4 x4 => if (nI i4) &&& (u ^^^ (-1)) = 0 then if fX4_pairs I b (nI i4) = 0 then if fX4_size (nI i4) ≤ x4 then x4 else fX4_size (nI i4) else x4 else x4) (nI 0)) = fX4_widest I b u := rfl
    exact mr_iret (v := (lp 256 (fun i4 x4 => if (nI i4) &&& (u ^^^ (-1)) = 0 then if fX4_pairs I b (nI i4) = 0 then if fX4_size (nI i4) ≤ x4 then x4 else fX4_size (nI i4) else x4 else x4) (nI 0))) C0 hr hlk hQ hS (by rw [← eF]) hM (Nat.le_refl _) (Nat.le_refl _) dX4_widest_51
def fX4_first (I : hm_I) (b : Nat) (u : Int32) : Int32 :=
  fX4_size (u &&& ((lp 8 (fun i4 x4 => if fX4_has u (nI i4) = true then x4 ||| (I (b + 4) i4) else x4 ||| (nI 0)) (nI 0)) ^^^ (-1)))
set_option maxHeartbeats 4000000 in
set_option maxRecDepth 100000 in
theorem ctX4_first {l : Launch} {D : va_G} {T : Nat → ClassId} {L : List Nat} {A : Nat → Prop} {Sh : hm_S} {I : hm_I} {J : hm_J} {b : Nat} (hMo : IsM L Sh b) {u : Int32} :
    Ct l yX4_first wsX4_first { frames := 1, cells := 0, slots := 0, locals := 22 } 0 0 D T A [.ref b, .int u] (hm D T L A Sh I J) (some (.int (fX4_first I b u))) (hm D T L A Sh I J) := by
  refine Ct.ofW (cc := cX4_first) (maxL := 4) (ret := (some .int)) (by decide) rfl (Nat.le_of_ble_eq_true rfl) ?_
  intro p_ e_ s_ m_ args_ below_ meth_ c_ ls R Qq hR hQ C0 hr hlk hname hM hl
  have hx := C0.1.1
  have hb := C0.1.2.1
  have hS : va_S A s_.heap s_.heap [] := va_S.rf
  have hl : lv_has ls 4 [(0, .ref b), (1, .int u)] := hl
  refine lv_iconst (v := nI 0) hx hb dX4_first_0 (by decide) ?_
  refine lv_istore_n (lv' := [(2, .int (nI 0)), (0, .ref b), (1, .int u)]) hx hb dX4_first_1 rfl hl (by decide) rfl (fun ls hl => ?_)
  refine lv_iconst (v := nI 0) hx hb dX4_first_2 (by decide) ?_
  refine lv_istore_n (lv' := [(3, .int (nI 0)), (2, .int (nI 0)), (0, .ref b), (1, .int u)]) hx hb dX4_first_3 rfl hl (by decide) rfl (fun ls hl => ?_)
  refine lp_loop (σ := Int32) (fun i4 x4 => ∀ (H : Heap) (locs : List Loc) (ls : Array Slot), hm D T L A Sh I J H → va_S A s_.heap H locs → lv_has ls 4 [(0, .ref b), (1, .int u), (2, .int x4), (3, .int (nI i4))] → W p_ l e_ R s_ m_ args_ below_ meth_ c_ H locs 0 0 Qq (F0 m_ 4 ls [])) 8 (fun i4 x4 => if fX4_has u (nI i4) = true then x4 ||| (I (b + 4) i4) else x4 ||| (nI 0)) (nI 0) (fun _ _ => True) trivial (fun _ _ _ _ => trivial) (fun i4 x4 hi1 hv2 k3 H locs ls hM hS hl => ?_) (fun hv2 H locs ls hM hS hl => ?_) _ _ _ hM hS (lv_sub hl [2, 3, 1, 0] rfl)
  · have stp4 : ∀ yy_ : Int32, yy_ = (if fX4_has u (nI i4) = true then x4 ||| (I (b + 4) i4) else x4 ||| (nI 0)) → ∀ (H : Heap) (locs : List Loc) (ls : Array Slot), hm D T L A Sh I J H → va_S A s_.heap H locs → lv_has ls 4 [(0, .ref b), (1, .int u), (2, .int yy_), (3, .int (nI (i4 + 1)))] → W p_ l e_ R s_ m_ args_ below_ meth_ c_ H locs 0 0 Qq (F0 m_ 4 ls []) := fun yy_ ey => by rw [ey]; exact k3
    refine lv_iload_n hx hb dX4_first_4 rfl (lv_at hl 3 rfl) ?_
    refine lv_bipush (v := nI 8) hx hb dX4_first_5 (by decide) ?_
    refine mr_geN (x := i4) (y := 8) (tgt := 37) C0 dX4_first_7 (by decide) (by omega) (by omega) (fun c5 => absurd c5 (by omega)) (fun c5 => ?_)
    refine lv_iload_n hx hb dX4_first_10 rfl (lv_at hl 2 rfl) ?_
    refine lv_iload_n hx hb dX4_first_11 rfl (lv_at hl 1 rfl) ?_
    refine lv_iload_n hx hb dX4_first_12 rfl (lv_at hl 3 rfl) ?_
    refine mr_callS (As := [.int u, .int (nI i4)]) C0 (ctX4_has (I := I) (J := J) (u := u) (s0 := (nI i4)) ) (va_cwS 2 C0.1.2.2.2.2 gX4_first_X4_has rfl rfl rfl (by decide +kernel) (by rw [hR]; exact ⟨Nat.le_of_ble_eq_true rfl, Nat.le_of_ble_eq_true rfl⟩)) hM hS rfl rfl rfl hl.1 (Nat.le_of_ble_eq_true rfl) dX4_first_13 (by rw [hR]; exact ⟨Nat.zero_le _, Nat.zero_le _⟩) (fun H locs hM hS => ?_)
    refine mr_eqB (tgt := 28) C0 dX4_first_16 (by decide) (fun c6 => ?_) (fun c6 => ?_)
    · skip
      refine lv_iconst (v := nI 0) hx hb dX4_first_28 (by decide) ?_
      refine lv_ior hx hb dX4_first_29 ?_
      refine lv_istore_n (lv' := [(2, .int (x4 ||| (nI 0))), (0, .ref b), (1, .int u), (3, .int (nI i4))]) hx hb dX4_first_30 rfl hl (by decide) rfl (fun ls hl => ?_)
      refine lv_iinc (v := nI (i4 + 1)) (lv' := [(3, .int (nI (i4 + 1))), (2, .int (x4 ||| (nI 0))), (0, .ref b), (1, .int u)]) hx hb dX4_first_31 hl (k := 3) rfl (nI_1 _) (by decide) rfl (fun ls hl => ?_)
      refine lv_goto (tgt := 4) hx hb dX4_first_34 (by decide) ?_
      exact stp4 (x4 ||| (nI 0)) (by rw [if_neg (Bool.eq_false_iff.mp c6)]) H locs ls hM hS (lv_sub hl [2, 3, 1, 0] rfl)
    · skip
      refine lv_aload_n hx hb dX4_first_19 rfl (lv_at hl 0 rfl) ?_
      refine mr_getr (r := b + 4) (TT := TX4) (N := 10) C0 uX4_first_X4 hM hMo.1.1 hMo.1.2 rfl 5 (by decide) rfl kX4_first_f19 rfl dX4_first_20 ?_
      refine lv_iload_n hx hb dX4_first_23 rfl (lv_at hl 3 rfl) ?_
      refine mr_ialdN (v := I (b + 4) i4) C0 hM hMo.2.2.2.2.1.1 hMo.2.2.2.2.1.2 (by decide) (by omega) rfl dX4_first_24 ?_
      refine lv_goto (tgt := 29) hx hb dX4_first_25 (by decide) ?_
      refine lv_ior hx hb dX4_first_29 ?_
      refine lv_istore_n (lv' := [(2, .int (x4 ||| (I (b + 4) i4))), (0, .ref b), (1, .int u), (3, .int (nI i4))]) hx hb dX4_first_30 rfl hl (by decide) rfl (fun ls hl => ?_)
      refine lv_iinc (v := nI (i4 + 1)) (lv' := [(3, .int (nI (i4 + 1))), (2, .int (x4 ||| (I (b + 4) i4))), (0, .ref b), (1, .int u)]) hx hb dX4_first_31 hl (k := 3) rfl (nI_1 _) (by decide) rfl (fun ls hl => ?_)
      refine lv_goto (tgt := 4) hx hb dX4_first_34 (by decide) ?_
      exact stp4 (x4 ||| (I (b + 4) i4)) (by rw [if_pos c6]) H locs ls hM hS (lv_sub hl [2, 3, 1, 0] rfl)
  · skip
    refine lv_iload_n hx hb dX4_first_4 rfl (lv_at hl 3 rfl) ?_
    refine lv_bipush (v := nI 8) hx hb dX4_first_5 (by decide) ?_
    refine mr_geN (x := 8) (y := 8) (tgt := 37) C0 dX4_first_7 (by decide) (by decide) (by decide) (fun _ => ?_) (fun c7 => absurd c7 (by decide))
    refine lv_iload_n hx hb dX4_first_37 rfl (lv_at hl 1 rfl) ?_
    refine lv_iload_n hx hb dX4_first_38 rfl (lv_at hl 2 rfl) ?_
    refine lv_iconst (v := (-1)) hx hb dX4_first_39 (by decide) ?_
    refine lv_ixor hx hb dX4_first_40 ?_
    refine lv_iand hx hb dX4_first_41 ?_
    refine mr_callS (As := [.int (u &&& ((lp 8 (fun i4 x4 => if fX4_has u (nI i4) = true then x4 ||| (I (b + 4) i4) else x4 ||| (nI 0)) (nI 0)) ^^^ (-1)))]) C0 (ctX4_size (I := I) (J := J) (u := (u &&& ((lp 8 (fun i4 x4 => if fX4_has u (nI i4) = true then x4 ||| (I (b + 4) i4) else x4 ||| (nI 0)) (nI 0)) ^^^ (-1)))) ) (va_cwS 1 C0.1.2.2.2.2 gX4_first_X4_size rfl rfl rfl (by decide +kernel) (by rw [hR]; exact ⟨Nat.le_of_ble_eq_true rfl, Nat.le_of_ble_eq_true rfl⟩)) hM hS rfl rfl rfl hl.1 (Nat.le_of_ble_eq_true rfl) dX4_first_42 (by rw [hR]; exact ⟨Nat.zero_le _, Nat.zero_le _⟩) (fun H locs hM hS => ?_)
    have eF : fX4_size (u &&& ((lp 8 (fun i4 x4 => if fX4_has u (nI i4) = true then x4 ||| (I (b + 4) i4) else x4 ||| (nI 0)) (nI 0)) ^^^ (-1))) = fX4_first I b u := rfl
    exact mr_iret (v := fX4_size (u &&& ((lp 8 (fun i4 x4 => if fX4_has u (nI i4) = true then x4 ||| (I (b + 4) i4) else x4 ||| (nI 0)) (nI 0)) ^^^ (-1)))) C0 hr hlk hQ hS (by rw [← eF]) hM (Nat.le_refl _) (Nat.le_refl _) dX4_first_45
def fX4_superfluous (I : hm_I) (b o : Nat) : Int32 :=
  (lp 8 (fun i4 x4 => x4 + (fX4_size ((I (b + 1) (o + i4)) &&& (lp 8 (fun i16 x16 => if fX4_has (I (b + 1) (o + i4)) (nI i16) = true then x16 ||| (I (b + 4) i16) else x16 ||| (nI 0)) (nI 0))))) (nI 0))
set_option maxHeartbeats 4000000 in
set_option maxRecDepth 100000 in
theorem ctX4_superfluous {l : Launch} {D : va_G} {T : Nat → ClassId} {L : List Nat} {A : Nat → Prop} {Sh : hm_S} {I : hm_I} {J : hm_J} {b : Nat} (hMo : IsM L Sh b) {o : Nat} (ho : o + 8 ≤ 428) :
    Ct l yX4_superfluous wsX4_superfluous { frames := 1, cells := 0, slots := 0, locals := 22 } 0 0 D T A [.ref b, .int (nI o)] (hm D T L A Sh I J) (some (.int (fX4_superfluous I b o))) (hm D T L A Sh I J) := by
  refine Ct.ofW (cc := cX4_superfluous) (maxL := 6) (ret := (some .int)) (by decide) rfl (Nat.le_of_ble_eq_true rfl) ?_
  intro p_ e_ s_ m_ args_ below_ meth_ c_ ls R Qq hR hQ C0 hr hlk hname hM hl
  have hx := C0.1.1
  have hb := C0.1.2.1
  have hS : va_S A s_.heap s_.heap [] := va_S.rf
  have hl : lv_has ls 6 [(0, .ref b), (1, .int (nI o))] := hl
  refine lv_iconst (v := nI 0) hx hb dX4_superfluous_0 (by decide) ?_
  refine lv_istore_n (lv' := [(2, .int (nI 0)), (0, .ref b), (1, .int (nI o))]) hx hb dX4_superfluous_1 rfl hl (by decide) rfl (fun ls hl => ?_)
  refine lv_iconst (v := nI 0) hx hb dX4_superfluous_2 (by decide) ?_
  refine lv_istore_n (lv' := [(3, .int (nI 0)), (2, .int (nI 0)), (0, .ref b), (1, .int (nI o))]) hx hb dX4_superfluous_3 rfl hl (by decide) rfl (fun ls hl => ?_)
  refine lp_loop (σ := Int32) (fun i4 x4 => ∀ (H : Heap) (locs : List Loc) (ls : Array Slot), hm D T L A Sh I J H → va_S A s_.heap H locs → lv_has ls 6 [(0, .ref b), (1, .int (nI o)), (2, .int x4), (3, .int (nI i4))] → W p_ l e_ R s_ m_ args_ below_ meth_ c_ H locs 0 0 Qq (F0 m_ 4 ls [])) 8 (fun i4 x4 => x4 + (fX4_size ((I (b + 1) (o + i4)) &&& (lp 8 (fun i16 x16 => if fX4_has (I (b + 1) (o + i4)) (nI i16) = true then x16 ||| (I (b + 4) i16) else x16 ||| (nI 0)) (nI 0))))) (nI 0) (fun _ _ => True) trivial (fun _ _ _ _ => trivial) (fun i4 x4 hi1 hv2 k3 H locs ls hM hS hl => ?_) (fun hv2 H locs ls hM hS hl => ?_) _ _ _ hM hS (lv_sub hl [2, 3, 1, 0] rfl)
  · have stp4 : ∀ yy_ : Int32, yy_ = (x4 + (fX4_size ((I (b + 1) (o + i4)) &&& (lp 8 (fun i16 x16 => if fX4_has (I (b + 1) (o + i4)) (nI i16) = true then x16 ||| (I (b + 4) i16) else x16 ||| (nI 0)) (nI 0))))) → ∀ (H : Heap) (locs : List Loc) (ls : Array Slot), hm D T L A Sh I J H → va_S A s_.heap H locs → lv_has ls 6 [(0, .ref b), (1, .int (nI o)), (2, .int yy_), (3, .int (nI (i4 + 1)))] → W p_ l e_ R s_ m_ args_ below_ meth_ c_ H locs 0 0 Qq (F0 m_ 4 ls []) := fun yy_ ey => by rw [ey]; exact k3
    refine lv_iload_n hx hb dX4_superfluous_4 rfl (lv_at hl 3 rfl) ?_
    refine lv_bipush (v := nI 8) hx hb dX4_superfluous_5 (by decide) ?_
    refine mr_geN (x := i4) (y := 8) (tgt := 84) C0 dX4_superfluous_7 (by decide) (by omega) (by omega) (fun c5 => absurd c5 (by omega)) (fun c5 => ?_)
    refine lv_iconst (v := nI 0) hx hb dX4_superfluous_10 (by decide) ?_
    refine lv_istore (lv' := [(4, .int (nI 0)), (0, .ref b), (1, .int (nI o)), (2, .int x4), (3, .int (nI i4))]) hx hb dX4_superfluous_11 hl (by decide) rfl (fun ls hl => ?_)
    refine lv_iconst (v := nI 0) hx hb dX4_superfluous_13 (by decide) ?_
    refine lv_istore (lv' := [(5, .int (nI 0)), (4, .int (nI 0)), (0, .ref b), (1, .int (nI o)), (2, .int x4), (3, .int (nI i4))]) hx hb dX4_superfluous_14 hl (by decide) rfl (fun ls hl => ?_)
    refine lp_loop (σ := Int32) (fun i16 x16 => ∀ (H : Heap) (locs : List Loc) (ls : Array Slot), hm D T L A Sh I J H → va_S A s_.heap H locs → lv_has ls 6 [(0, .ref b), (1, .int (nI o)), (2, .int x4), (3, .int (nI i4)), (4, .int x16), (5, .int (nI i16))] → W p_ l e_ R s_ m_ args_ below_ meth_ c_ H locs 0 0 Qq (F0 m_ 16 ls [])) 8 (fun i16 x16 => if fX4_has (I (b + 1) (o + i4)) (nI i16) = true then x16 ||| (I (b + 4) i16) else x16 ||| (nI 0)) (nI 0) (fun _ _ => True) trivial (fun _ _ _ _ => trivial) (fun i16 x16 hi6 hv7 k8 H locs ls hM hS hl => ?_) (fun hv7 H locs ls hM hS hl => ?_) _ _ _ hM hS (lv_sub hl [2, 3, 4, 5, 1, 0] rfl)
    · have stp9 : ∀ yy_ : Int32, yy_ = (if fX4_has (I (b + 1) (o + i4)) (nI i16) = true then x16 ||| (I (b + 4) i16) else x16 ||| (nI 0)) → ∀ (H : Heap) (locs : List Loc) (ls : Array Slot), hm D T L A Sh I J H → va_S A s_.heap H locs → lv_has ls 6 [(0, .ref b), (1, .int (nI o)), (2, .int x4), (3, .int (nI i4)), (4, .int yy_), (5, .int (nI (i16 + 1)))] → W p_ l e_ R s_ m_ args_ below_ meth_ c_ H locs 0 0 Qq (F0 m_ 16 ls []) := fun yy_ ey => by rw [ey]; exact k8
      refine lv_iload hx hb dX4_superfluous_16 (lv_at hl 5 rfl) ?_
      refine lv_bipush (v := nI 8) hx hb dX4_superfluous_18 (by decide) ?_
      refine mr_geN (x := i16) (y := 8) (tgt := 61) C0 dX4_superfluous_20 (by decide) (by omega) (by omega) (fun c10 => absurd c10 (by omega)) (fun c10 => ?_)
      refine lv_iload hx hb dX4_superfluous_23 (lv_at hl 4 rfl) ?_
      refine lv_aload_n hx hb dX4_superfluous_25 rfl (lv_at hl 0 rfl) ?_
      refine mr_getr (r := b + 1) (TT := TX4) (N := 10) C0 uX4_superfluous_X4 hM hMo.1.1 hMo.1.2 rfl 0 (by decide) rfl kX4_superfluous_f7 rfl dX4_superfluous_26 ?_
      refine lv_iload_n hx hb dX4_superfluous_29 rfl (lv_at hl 1 rfl) ?_
      refine lv_iload_n hx hb dX4_superfluous_30 rfl (lv_at hl 3 rfl) ?_
      refine mr_iaddN (z := o + i4) C0 rfl dX4_superfluous_31 ?_
      refine mr_ialdN (v := I (b + 1) (o + i4)) C0 hM hMo.2.1.1 hMo.2.1.2 (by decide) (by omega) rfl dX4_superfluous_32 ?_
      refine lv_iload hx hb dX4_superfluous_33 (lv_at hl 5 rfl) ?_
      refine mr_callS (As := [.int (I (b + 1) (o + i4)), .int (nI i16)]) C0 (ctX4_has (I := I) (J := J) (u := (I (b + 1) (o + i4))) (s0 := (nI i16)) ) (va_cwS 2 C0.1.2.2.2.2 gX4_superfluous_X4_has rfl rfl rfl (by decide +kernel) (by rw [hR]; exact ⟨Nat.le_of_ble_eq_true rfl, Nat.le_of_ble_eq_true rfl⟩)) hM hS rfl rfl rfl hl.1 (Nat.le_of_ble_eq_true rfl) dX4_superfluous_35 (by rw [hR]; exact ⟨Nat.zero_le _, Nat.zero_le _⟩) (fun H locs hM hS => ?_)
      refine mr_eqB (tgt := 51) C0 dX4_superfluous_38 (by decide) (fun c11 => ?_) (fun c11 => ?_)
      · skip
        refine lv_iconst (v := nI 0) hx hb dX4_superfluous_51 (by decide) ?_
        refine lv_ior hx hb dX4_superfluous_52 ?_
        refine lv_istore (lv' := [(4, .int (x16 ||| (nI 0))), (0, .ref b), (1, .int (nI o)), (2, .int x4), (3, .int (nI i4)), (5, .int (nI i16))]) hx hb dX4_superfluous_53 hl (by decide) rfl (fun ls hl => ?_)
        refine lv_iinc (v := nI (i16 + 1)) (lv' := [(5, .int (nI (i16 + 1))), (4, .int (x16 ||| (nI 0))), (0, .ref b), (1, .int (nI o)), (2, .int x4), (3, .int (nI i4))]) hx hb dX4_superfluous_55 hl (k := 5) rfl (nI_1 _) (by decide) rfl (fun ls hl => ?_)
        refine lv_goto (tgt := 16) hx hb dX4_superfluous_58 (by decide) ?_
        exact stp9 (x16 ||| (nI 0)) (by rw [if_neg (Bool.eq_false_iff.mp c11)]) H locs ls hM hS (lv_sub hl [2, 3, 4, 5, 1, 0] rfl)
      · skip
        refine lv_aload_n hx hb dX4_superfluous_41 rfl (lv_at hl 0 rfl) ?_
        refine mr_getr (r := b + 4) (TT := TX4) (N := 10) C0 uX4_superfluous_X4 hM hMo.1.1 hMo.1.2 rfl 5 (by decide) rfl kX4_superfluous_f19 rfl dX4_superfluous_42 ?_
        refine lv_iload hx hb dX4_superfluous_45 (lv_at hl 5 rfl) ?_
        refine mr_ialdN (v := I (b + 4) i16) C0 hM hMo.2.2.2.2.1.1 hMo.2.2.2.2.1.2 (by decide) (by omega) rfl dX4_superfluous_47 ?_
        refine lv_goto (tgt := 52) hx hb dX4_superfluous_48 (by decide) ?_
        refine lv_ior hx hb dX4_superfluous_52 ?_
        refine lv_istore (lv' := [(4, .int (x16 ||| (I (b + 4) i16))), (0, .ref b), (1, .int (nI o)), (2, .int x4), (3, .int (nI i4)), (5, .int (nI i16))]) hx hb dX4_superfluous_53 hl (by decide) rfl (fun ls hl => ?_)
        refine lv_iinc (v := nI (i16 + 1)) (lv' := [(5, .int (nI (i16 + 1))), (4, .int (x16 ||| (I (b + 4) i16))), (0, .ref b), (1, .int (nI o)), (2, .int x4), (3, .int (nI i4))]) hx hb dX4_superfluous_55 hl (k := 5) rfl (nI_1 _) (by decide) rfl (fun ls hl => ?_)
        refine lv_goto (tgt := 16) hx hb dX4_superfluous_58 (by decide) ?_
        exact stp9 (x16 ||| (I (b + 4) i16)) (by rw [if_pos c11]) H locs ls hM hS (lv_sub hl [2, 3, 4, 5, 1, 0] rfl)
    · skip
      refine lv_iload hx hb dX4_superfluous_16 (lv_at hl 5 rfl) ?_
      refine lv_bipush (v := nI 8) hx hb dX4_superfluous_18 (by decide) ?_
      refine mr_geN (x := 8) (y := 8) (tgt := 61) C0 dX4_superfluous_20 (by decide) (by decide) (by decide) (fun _ => ?_) (fun c12 => absurd c12 (by decide))
      refine lv_iload_n hx hb dX4_superfluous_61 rfl (lv_at hl 2 rfl) ?_
      refine lv_aload_n hx hb dX4_superfluous_62 rfl (lv_at hl 0 rfl) ?_
      refine mr_getr (r := b + 1) (TT := TX4) (N := 10) C0 uX4_superfluous_X4 hM hMo.1.1 hMo.1.2 rfl 0 (by decide) rfl kX4_superfluous_f7 rfl dX4_superfluous_63 ?_
      refine lv_iload_n hx hb dX4_superfluous_66 rfl (lv_at hl 1 rfl) ?_
      refine lv_iload_n hx hb dX4_superfluous_67 rfl (lv_at hl 3 rfl) ?_
      refine mr_iaddN (z := o + i4) C0 rfl dX4_superfluous_68 ?_
      refine mr_ialdN (v := I (b + 1) (o + i4)) C0 hM hMo.2.1.1 hMo.2.1.2 (by decide) (by omega) rfl dX4_superfluous_69 ?_
      refine lv_iload hx hb dX4_superfluous_70 (lv_at hl 4 rfl) ?_
      refine lv_iand hx hb dX4_superfluous_72 ?_
      refine mr_callS (As := [.int ((I (b + 1) (o + i4)) &&& (lp 8 (fun i16 x16 => if fX4_has (I (b + 1) (o + i4)) (nI i16) = true then x16 ||| (I (b + 4) i16) else x16 ||| (nI 0)) (nI 0)))]) C0 (ctX4_size (I := I) (J := J) (u := ((I (b + 1) (o + i4)) &&& (lp 8 (fun i16 x16 => if fX4_has (I (b + 1) (o + i4)) (nI i16) = true then x16 ||| (I (b + 4) i16) else x16 ||| (nI 0)) (nI 0)))) ) (va_cwS 1 C0.1.2.2.2.2 gX4_superfluous_X4_size rfl rfl rfl (by decide +kernel) (by rw [hR]; exact ⟨Nat.le_of_ble_eq_true rfl, Nat.le_of_ble_eq_true rfl⟩)) hM hS rfl rfl rfl hl.1 (Nat.le_of_ble_eq_true rfl) dX4_superfluous_73 (by rw [hR]; exact ⟨Nat.zero_le _, Nat.zero_le _⟩) (fun H locs hM hS => ?_)
      refine lv_iadd hx hb dX4_superfluous_76 ?_
      refine lv_istore_n (lv' := [(2, .int (x4 + (fX4_size ((I (b + 1) (o + i4)) &&& (lp 8 (fun i16 x16 => if fX4_has (I (b + 1) (o + i4)) (nI i16) = true then x16 ||| (I (b + 4) i16) else x16 ||| (nI 0)) (nI 0)))))), (0, .ref b), (1, .int (nI o)), (3, .int (nI i4)), (4, .int (lp 8 (fun i16 x16 => if fX4_has (I (b + 1) (o + i4)) (nI i16) = true then x16 ||| (I (b + 4) i16) else x16 ||| (nI 0)) (nI 0))), (5, .int (nI 8))]) hx hb dX4_superfluous_77 rfl hl (by decide) rfl (fun ls hl => ?_)
      refine lv_iinc (v := nI (i4 + 1)) (lv' := [(3, .int (nI (i4 + 1))), (2, .int (x4 + (fX4_size ((I (b + 1) (o + i4)) &&& (lp 8 (fun i16 x16 => if fX4_has (I (b + 1) (o + i4)) (nI i16) = true then x16 ||| (I (b + 4) i16) else x16 ||| (nI 0)) (nI 0)))))), (0, .ref b), (1, .int (nI o)), (4, .int (lp 8 (fun i16 x16 => if fX4_has (I (b + 1) (o + i4)) (nI i16) = true then x16 ||| (I (b + 4) i16) else x16 ||| (nI 0)) (nI 0))), (5, .int (nI 8))]) hx hb dX4_superfluous_78 hl (k := 3) rfl (nI_1 _) (by decide) rfl (fun ls hl => ?_)
      refine lv_goto (tgt := 4) hx hb dX4_superfluous_81 (by decide) ?_
      exact stp4 (x4 + (fX4_size ((I (b + 1) (o + i4)) &&& (lp 8 (fun i16 x16 => if fX4_has (I (b + 1) (o + i4)) (nI i16) = true then x16 ||| (I (b + 4) i16) else x16 ||| (nI 0)) (nI 0))))) rfl H locs ls hM hS (lv_sub hl [2, 3, 1, 0] rfl)
  · skip
    refine lv_iload_n hx hb dX4_superfluous_4 rfl (lv_at hl 3 rfl) ?_
    refine lv_bipush (v := nI 8) hx hb dX4_superfluous_5 (by decide) ?_
    refine mr_geN (x := 8) (y := 8) (tgt := 84) C0 dX4_superfluous_7 (by decide) (by decide) (by decide) (fun _ => ?_) (fun c13 => absurd c13 (by decide))
    refine lv_iload_n hx hb dX4_superfluous_84 rfl (lv_at hl 2 rfl) ?_
    have eF : (lp 8 (fun i4 x4 => x4 + (fX4_size ((I (b + 1) (o + i4)) &&& (lp 8 (fun i16 x16 => if fX4_has (I (b + 1) (o + i4)) (nI i16) = true then x16 ||| (I (b + 4) i16) else x16 ||| (nI 0)) (nI 0))))) (nI 0)) = fX4_superfluous I b o := rfl
    exact mr_iret (v := (lp 8 (fun i4 x4 => x4 + (fX4_size ((I (b + 1) (o + i4)) &&& (lp 8 (fun i16 x16 => if fX4_has (I (b + 1) (o + i4)) (nI i16) = true then x16 ||| (I (b + 4) i16) else x16 ||| (nI 0)) (nI 0))))) (nI 0))) C0 hr hlk hQ hS (by rw [← eF]) hM (Nat.le_refl _) (Nat.le_refl _) dX4_superfluous_85
def fX4_layLeft_L50 (I : hm_I) (b g0 : Nat) (i33 : Nat) (x33 : hm_I) (i41 : Nat) (x41 : hm_I) (i50 : Nat) (x50 : hm_I) : hm_I ⊕ (hm_I) :=
  if x50 (b + 6) i41 = (-9) then if fX4_has (x50 (b + 1) (176 + i41)) (nI i50) = true then if x50 (b + 6) i50 = nI i33 then Sum.inr (hm_put x50 (b + 6) i41 (nI (i33 + 1))) else Sum.inr (hm_put x50 (b + 6) i41 (-9)) else Sum.inr (hm_put x50 (b + 6) i41 (-9)) else Sum.inl x50
def fX4_layLeft_L41 (I : hm_I) (b g0 : Nat) (i33 : Nat) (x33 : hm_I) (i41 : Nat) (x41 : hm_I) : hm_I :=
  lpr (fX4_layLeft_L50 I b g0 i33 x33 i41 x41) (fun (x50 : hm_I) => (x50 : hm_I)) 8 0 x41
def fX4_layLeft_L33 (I : hm_I) (b g0 : Nat)  (i33 : Nat) (x33 : hm_I) : hm_I :=
  (lp 8 (fun i41 x41 => fX4_layLeft_L41 I b g0 i33 x33 i41 x41) x33)
def fX4_layLeft (I : hm_I) (b g0 : Nat) : hm_I :=
  (lp 8 (fun i33 x33 => fX4_layLeft_L33 I b g0 i33 x33) (lp 8 (fun i2 x2 => if i2 = g0 then hm_put x2 (b + 6) i2 (nI 0) else hm_put x2 (b + 6) i2 (-9)) I))
set_option maxHeartbeats 4000000 in
set_option maxRecDepth 100000 in
theorem ctX4_layLeft {l : Launch} {D : va_G} {T : Nat → ClassId} {L : List Nat} {A : Nat → Prop} {Sh : hm_S} {I : hm_I} {J : hm_J} {b : Nat} (hMo : IsM L Sh b) {g0 : Nat} (hg0 : g0 < 8) :
    Ct l yX4_layLeft wsX4_layLeft { frames := 1, cells := 0, slots := 0, locals := 21 } 0 0 D T A [.ref b, .int (nI g0)] (hm D T L A Sh I J) none (hm D T L A Sh (fX4_layLeft I b g0) J) := by
  refine Ct.ofW (cc := cX4_layLeft) (maxL := 5) (ret := none) (by decide) rfl (Nat.le_of_ble_eq_true rfl) ?_
  intro p_ e_ s_ m_ args_ below_ meth_ c_ ls R Qq hR hQ C0 hr hlk hname hM hl
  have hx := C0.1.1
  have hb := C0.1.2.1
  have hS : va_S A s_.heap s_.heap [] := va_S.rf
  have hl : lv_has ls 5 [(0, .ref b), (1, .int (nI g0))] := hl
  refine lv_iconst (v := nI 0) hx hb dX4_layLeft_0 (by decide) ?_
  refine lv_istore_n (lv' := [(2, .int (nI 0)), (0, .ref b), (1, .int (nI g0))]) hx hb dX4_layLeft_1 rfl hl (by decide) rfl (fun ls hl => ?_)
  refine lp_loop (σ := hm_I) (fun i2 x2 => ∀ (H : Heap) (locs : List Loc) (ls : Array Slot), hm D T L A Sh x2 J H → va_S A s_.heap H locs → lv_has ls 5 [(0, .ref b), (1, .int (nI g0)), (2, .int (nI i2))] → W p_ l e_ R s_ m_ args_ below_ meth_ c_ H locs 0 0 Qq (F0 m_ 2 ls [])) 8 (fun i2 x2 => if i2 = g0 then hm_put x2 (b + 6) i2 (nI 0) else hm_put x2 (b + 6) i2 (-9)) I (fun _ _ => True) trivial (fun _ _ _ _ => trivial) (fun i2 x2 hi1 hv2 k3 H locs ls hM hS hl => ?_) (fun hv2 H locs ls hM hS hl => ?_) _ _ _ hM hS (lv_sub hl [1, 2, 0] rfl)
  · have stp4 : ∀ yy_ : hm_I, yy_ = (if i2 = g0 then hm_put x2 (b + 6) i2 (nI 0) else hm_put x2 (b + 6) i2 (-9)) → ∀ (H : Heap) (locs : List Loc) (ls : Array Slot), hm D T L A Sh yy_ J H → va_S A s_.heap H locs → lv_has ls 5 [(0, .ref b), (1, .int (nI g0)), (2, .int (nI (i2 + 1)))] → W p_ l e_ R s_ m_ args_ below_ meth_ c_ H locs 0 0 Qq (F0 m_ 2 ls []) := fun yy_ ey => by rw [ey]; exact k3
    refine lv_iload_n hx hb dX4_layLeft_2 rfl (lv_at hl 2 rfl) ?_
    refine lv_bipush (v := nI 8) hx hb dX4_layLeft_3 (by decide) ?_
    refine mr_geN (x := i2) (y := 8) (tgt := 31) C0 dX4_layLeft_5 (by decide) (by omega) (by omega) (fun c5 => absurd c5 (by omega)) (fun c5 => ?_)
    refine lv_aload_n hx hb dX4_layLeft_8 rfl (lv_at hl 0 rfl) ?_
    refine mr_getr (r := b + 6) (TT := TX4) (N := 10) C0 uX4_layLeft_X4 hM hMo.1.1 hMo.1.2 rfl 7 (by decide) rfl kX4_layLeft_f25 rfl dX4_layLeft_9 ?_
    refine lv_iload_n hx hb dX4_layLeft_12 rfl (lv_at hl 2 rfl) ?_
    refine lv_iload_n hx hb dX4_layLeft_13 rfl (lv_at hl 2 rfl) ?_
    refine lv_iload_n hx hb dX4_layLeft_14 rfl (lv_at hl 1 rfl) ?_
    refine mr_neN (x := i2) (y := g0) (tgt := 22) C0 dX4_layLeft_15 (by decide) (by omega) (by omega) (fun c6 => ?_) (fun c6 => ?_)
    · skip
      refine lv_bipush (v := (-9)) hx hb dX4_layLeft_22 (by decide) ?_
      refine mr_iastN C0 hM hS hMo.2.2.2.2.2.2.1.1 hMo.2.2.2.2.2.2.1.2 (by decide) (by omega) dX4_layLeft_24 (fun H locs hM hS => ?_)
      refine lv_iinc (v := nI (i2 + 1)) (lv' := [(2, .int (nI (i2 + 1))), (0, .ref b), (1, .int (nI g0))]) hx hb dX4_layLeft_25 hl (k := 2) rfl (nI_1 _) (by decide) rfl (fun ls hl => ?_)
      refine lv_goto (tgt := 2) hx hb dX4_layLeft_28 (by decide) ?_
      exact stp4 (hm_put x2 (b + 6) i2 (-9)) (by rw [if_neg c6]) H locs ls hM hS (lv_sub hl [1, 2, 0] rfl)
    · skip
      refine lv_iconst (v := nI 0) hx hb dX4_layLeft_18 (by decide) ?_
      refine lv_goto (tgt := 24) hx hb dX4_layLeft_19 (by decide) ?_
      refine mr_iastN C0 hM hS hMo.2.2.2.2.2.2.1.1 hMo.2.2.2.2.2.2.1.2 (by decide) (by omega) dX4_layLeft_24 (fun H locs hM hS => ?_)
      refine lv_iinc (v := nI (i2 + 1)) (lv' := [(2, .int (nI (i2 + 1))), (0, .ref b), (1, .int (nI g0))]) hx hb dX4_layLeft_25 hl (k := 2) rfl (nI_1 _) (by decide) rfl (fun ls hl => ?_)
      refine lv_goto (tgt := 2) hx hb dX4_layLeft_28 (by decide) ?_
      exact stp4 (hm_put x2 (b + 6) i2 (nI 0)) (by rw [if_pos c6]) H locs ls hM hS (lv_sub hl [1, 2, 0] rfl)
  · skip
    refine lv_iload_n hx hb dX4_layLeft_2 rfl (lv_at hl 2 rfl) ?_
    refine lv_bipush (v := nI 8) hx hb dX4_layLeft_3 (by decide) ?_
    refine mr_geN (x := 8) (y := 8) (tgt := 31) C0 dX4_layLeft_5 (by decide) (by decide) (by decide) (fun _ => ?_) (fun c7 => absurd c7 (by decide))
    refine lv_iconst (v := nI 0) hx hb dX4_layLeft_31 (by decide) ?_
    refine lv_istore_n (lv' := [(2, .int (nI 0)), (0, .ref b), (1, .int (nI g0))]) hx hb dX4_layLeft_32 rfl hl (by decide) rfl (fun ls hl => ?_)
    refine lp_loop (σ := hm_I) (fun i33 x33 => ∀ (H : Heap) (locs : List Loc) (ls : Array Slot), hm D T L A Sh x33 J H → va_S A s_.heap H locs → lv_has ls 5 [(0, .ref b), (2, .int (nI i33))] → W p_ l e_ R s_ m_ args_ below_ meth_ c_ H locs 0 0 Qq (F0 m_ 33 ls [])) 8 (fun i33 x33 => fX4_layLeft_L33 I b g0 i33 x33) (lp 8 (fun i2 x2 => if i2 = g0 then hm_put x2 (b + 6) i2 (nI 0) else hm_put x2 (b + 6) i2 (-9)) I) (fun _ _ => True) trivial (fun _ _ _ _ => trivial) (fun i33 x33 hi8 hv9 k10 H locs ls hM hS hl => ?_) (fun hv9 H locs ls hM hS hl => ?_) _ _ _ hM hS (lv_sub hl [1, 0] rfl)
    · have stp11 : ∀ yy_ : hm_I, yy_ = (fX4_layLeft_L33 I b g0 i33 x33) → ∀ (H : Heap) (locs : List Loc) (ls : Array Slot), hm D T L A Sh yy_ J H → va_S A s_.heap H locs → lv_has ls 5 [(0, .ref b), (2, .int (nI (i33 + 1)))] → W p_ l e_ R s_ m_ args_ below_ meth_ c_ H locs 0 0 Qq (F0 m_ 33 ls []) := fun yy_ ey => by rw [ey]; exact k10
      refine lv_iload_n hx hb dX4_layLeft_33 rfl (lv_at hl 1 rfl) ?_
      refine lv_bipush (v := nI 8) hx hb dX4_layLeft_34 (by decide) ?_
      refine mr_geN (x := i33) (y := 8) (tgt := 129) C0 dX4_layLeft_36 (by decide) (by omega) (by omega) (fun c12 => absurd c12 (by omega)) (fun c12 => ?_)
      refine lv_iconst (v := nI 0) hx hb dX4_layLeft_39 (by decide) ?_
      refine lv_istore_n (lv' := [(3, .int (nI 0)), (0, .ref b), (2, .int (nI i33))]) hx hb dX4_layLeft_40 rfl hl (by decide) rfl (fun ls hl => ?_)
      refine lp_loop (σ := hm_I) (fun i41 x41 => ∀ (H : Heap) (locs : List Loc) (ls : Array Slot), hm D T L A Sh x41 J H → va_S A s_.heap H locs → lv_has ls 5 [(0, .ref b), (2, .int (nI i33)), (3, .int (nI i41))] → W p_ l e_ R s_ m_ args_ below_ meth_ c_ H locs 0 0 Qq (F0 m_ 41 ls [])) 8 (fun i41 x41 => fX4_layLeft_L41 I b g0 i33 x33 i41 x41) x33 (fun _ _ => True) trivial (fun _ _ _ _ => trivial) (fun i41 x41 hi13 hv14 k15 H locs ls hM hS hl => ?_) (fun hv14 H locs ls hM hS hl => ?_) _ _ _ hM hS (lv_sub hl [1, 2, 0] rfl)
      · have stp16 : ∀ yy_ : hm_I, yy_ = (fX4_layLeft_L41 I b g0 i33 x33 i41 x41) → ∀ (H : Heap) (locs : List Loc) (ls : Array Slot), hm D T L A Sh yy_ J H → va_S A s_.heap H locs → lv_has ls 5 [(0, .ref b), (2, .int (nI i33)), (3, .int (nI (i41 + 1)))] → W p_ l e_ R s_ m_ args_ below_ meth_ c_ H locs 0 0 Qq (F0 m_ 41 ls []) := fun yy_ ey => by rw [ey]; exact k15
        refine lv_iload_n hx hb dX4_layLeft_41 rfl (lv_at hl 2 rfl) ?_
        refine lv_bipush (v := nI 8) hx hb dX4_layLeft_42 (by decide) ?_
        refine mr_geN (x := i41) (y := 8) (tgt := 123) C0 dX4_layLeft_44 (by decide) (by omega) (by omega) (fun c17 => absurd c17 (by omega)) (fun c17 => ?_)
        refine lv_iconst (v := nI 0) hx hb dX4_layLeft_47 (by decide) ?_
        refine lv_istore (lv' := [(4, .int (nI 0)), (0, .ref b), (2, .int (nI i33)), (3, .int (nI i41))]) hx hb dX4_layLeft_48 hl (by decide) rfl (fun ls hl => ?_)
        refine lpr_loop (σ := hm_I) (ρ := hm_I) (fun i50 x50 => ∀ (H : Heap) (locs : List Loc) (ls : Array Slot), hm D T L A Sh x50 J H → va_S A s_.heap H locs → lv_has ls 5 [(0, .ref b), (2, .int (nI i33)), (3, .int (nI i41)), (4, .int (nI i50))] → W p_ l e_ R s_ m_ args_ below_ meth_ c_ H locs 0 0 Qq (F0 m_ 50 ls [])) 8 (fX4_layLeft_L50 I b g0 i33 x33 i41 x41) (fun (x50 : hm_I) => (x50 : hm_I)) x41 (fun _ _ => True) trivial (fun _ _ _ _ _ _ => trivial) (fun i50 x50 hi18 hv19 kv20 k21 H locs ls hM hS hl => ?_) (fun x50 hv19 hd H locs ls hM hS hl => ?_) _ _ _ hM hS (lv_sub hl [1, 2, 3, 0] rfl)
        · skip
          refine lv_iload hx hb dX4_layLeft_50 (lv_at hl 3 rfl) ?_
          refine lv_bipush (v := nI 8) hx hb dX4_layLeft_52 (by decide) ?_
          refine mr_geN (x := i50) (y := 8) (tgt := 117) C0 dX4_layLeft_54 (by decide) (by omega) (by omega) (fun c22 => absurd c22 (by omega)) (fun c22 => ?_)
          refine lv_aload_n hx hb dX4_layLeft_57 rfl (lv_at hl 0 rfl) ?_
          refine mr_getr (r := b + 6) (TT := TX4) (N := 10) C0 uX4_layLeft_X4 hM hMo.1.1 hMo.1.2 rfl 7 (by decide) rfl kX4_layLeft_f25 rfl dX4_layLeft_58 ?_
          refine lv_iload_n hx hb dX4_layLeft_61 rfl (lv_at hl 2 rfl) ?_
          refine mr_ialdN (v := x50 (b + 6) i41) C0 hM hMo.2.2.2.2.2.2.1.1 hMo.2.2.2.2.2.2.1.2 (by decide) (by omega) rfl dX4_layLeft_62 ?_
          refine lv_bipush (v := (-9)) hx hb dX4_layLeft_63 (by decide) ?_
          refine lv_icmp_ne (tgt := 117) hx hb dX4_layLeft_65 (by decide) (fun c23 => ?_) (fun c23 => ?_)
          · skip
            refine lv_iinc (v := nI (i41 + 1)) (lv' := [(3, .int (nI (i41 + 1))), (0, .ref b), (2, .int (nI i33)), (4, .int (nI i50))]) hx hb dX4_layLeft_117 hl (k := 2) rfl (nI_1 _) (by decide) rfl (fun ls hl => ?_)
            refine lv_goto (tgt := 41) hx hb dX4_layLeft_120 (by decide) ?_
            have hf24 := kv20 x50 (by unfold fX4_layLeft_L50; rw [if_neg c23])
            exact stp16 x50 hf24 H locs ls hM hS (lv_sub hl [1, 2, 0] rfl)
          · skip
            refine lv_aload_n hx hb dX4_layLeft_68 rfl (lv_at hl 0 rfl) ?_
            refine mr_getr (r := b + 6) (TT := TX4) (N := 10) C0 uX4_layLeft_X4 hM hMo.1.1 hMo.1.2 rfl 7 (by decide) rfl kX4_layLeft_f25 rfl dX4_layLeft_69 ?_
            refine lv_iload_n hx hb dX4_layLeft_72 rfl (lv_at hl 2 rfl) ?_
            refine lv_aload_n hx hb dX4_layLeft_73 rfl (lv_at hl 0 rfl) ?_
            refine mr_getr (r := b + 1) (TT := TX4) (N := 10) C0 uX4_layLeft_X4 hM hMo.1.1 hMo.1.2 rfl 0 (by decide) rfl kX4_layLeft_f7 rfl dX4_layLeft_74 ?_
            refine lv_sipush (v := nI 176) hx hb dX4_layLeft_77 (by decide) ?_
            refine lv_iload_n hx hb dX4_layLeft_80 rfl (lv_at hl 2 rfl) ?_
            refine mr_iaddN (z := 176 + i41) C0 rfl dX4_layLeft_81 ?_
            refine mr_ialdN (v := x50 (b + 1) (176 + i41)) C0 hM hMo.2.1.1 hMo.2.1.2 (by decide) (by omega) rfl dX4_layLeft_82 ?_
            refine lv_iload hx hb dX4_layLeft_83 (lv_at hl 3 rfl) ?_
            refine mr_callS (As := [.int (x50 (b + 1) (176 + i41)), .int (nI i50)]) C0 (ctX4_has (I := x50) (J := J) (u := (x50 (b + 1) (176 + i41))) (s0 := (nI i50)) ) (va_cwS 2 C0.1.2.2.2.2 gX4_layLeft_X4_has rfl rfl rfl (by decide +kernel) (by rw [hR]; exact ⟨Nat.le_of_ble_eq_true rfl, Nat.le_of_ble_eq_true rfl⟩)) hM hS rfl rfl rfl hl.1 (Nat.le_of_ble_eq_true rfl) dX4_layLeft_85 (by rw [hR]; exact ⟨Nat.zero_le _, Nat.zero_le _⟩) (fun H locs hM hS => ?_)
            refine mr_eqB (tgt := 108) C0 dX4_layLeft_88 (by decide) (fun c25 => ?_) (fun c25 => ?_)
            · skip
              refine lv_bipush (v := (-9)) hx hb dX4_layLeft_108 (by decide) ?_
              refine mr_iastN C0 hM hS hMo.2.2.2.2.2.2.1.1 hMo.2.2.2.2.2.2.1.2 (by decide) (by omega) dX4_layLeft_110 (fun H locs hM hS => ?_)
              refine lv_iinc (v := nI (i50 + 1)) (lv' := [(4, .int (nI (i50 + 1))), (0, .ref b), (2, .int (nI i33)), (3, .int (nI i41))]) hx hb dX4_layLeft_111 hl (k := 3) rfl (nI_1 _) (by decide) rfl (fun ls hl => ?_)
              refine lv_goto (tgt := 50) hx hb dX4_layLeft_114 (by decide) ?_
              exact k21 (hm_put x50 (b + 6) i41 (-9)) (by unfold fX4_layLeft_L50; rw [if_pos c23, if_neg (Bool.eq_false_iff.mp c25)]) H locs ls hM hS (lv_sub hl [1, 2, 3, 0] rfl)
            · skip
              refine lv_aload_n hx hb dX4_layLeft_91 rfl (lv_at hl 0 rfl) ?_
              refine mr_getr (r := b + 6) (TT := TX4) (N := 10) C0 uX4_layLeft_X4 hM hMo.1.1 hMo.1.2 rfl 7 (by decide) rfl kX4_layLeft_f25 rfl dX4_layLeft_92 ?_
              refine lv_iload hx hb dX4_layLeft_95 (lv_at hl 3 rfl) ?_
              refine mr_ialdN (v := x50 (b + 6) i50) C0 hM hMo.2.2.2.2.2.2.1.1 hMo.2.2.2.2.2.2.1.2 (by decide) (by omega) rfl dX4_layLeft_97 ?_
              refine lv_iload_n hx hb dX4_layLeft_98 rfl (lv_at hl 1 rfl) ?_
              refine lv_icmp_ne (tgt := 108) hx hb dX4_layLeft_99 (by decide) (fun c26 => ?_) (fun c26 => ?_)
              · skip
                refine lv_bipush (v := (-9)) hx hb dX4_layLeft_108 (by decide) ?_
                refine mr_iastN C0 hM hS hMo.2.2.2.2.2.2.1.1 hMo.2.2.2.2.2.2.1.2 (by decide) (by omega) dX4_layLeft_110 (fun H locs hM hS => ?_)
                refine lv_iinc (v := nI (i50 + 1)) (lv' := [(4, .int (nI (i50 + 1))), (0, .ref b), (2, .int (nI i33)), (3, .int (nI i41))]) hx hb dX4_layLeft_111 hl (k := 3) rfl (nI_1 _) (by decide) rfl (fun ls hl => ?_)
                refine lv_goto (tgt := 50) hx hb dX4_layLeft_114 (by decide) ?_
                exact k21 (hm_put x50 (b + 6) i41 (-9)) (by unfold fX4_layLeft_L50; rw [if_pos c23, if_pos c25, if_neg c26]) H locs ls hM hS (lv_sub hl [1, 2, 3, 0] rfl)
              · skip
                refine lv_iload_n hx hb dX4_layLeft_102 rfl (lv_at hl 1 rfl) ?_
                refine lv_iconst (v := nI 1) hx hb dX4_layLeft_103 (by decide) ?_
                refine mr_iaddN (z := i33 + 1) C0 rfl dX4_layLeft_104 ?_
                refine lv_goto (tgt := 110) hx hb dX4_layLeft_105 (by decide) ?_
                refine mr_iastN C0 hM hS hMo.2.2.2.2.2.2.1.1 hMo.2.2.2.2.2.2.1.2 (by decide) (by omega) dX4_layLeft_110 (fun H locs hM hS => ?_)
                refine lv_iinc (v := nI (i50 + 1)) (lv' := [(4, .int (nI (i50 + 1))), (0, .ref b), (2, .int (nI i33)), (3, .int (nI i41))]) hx hb dX4_layLeft_111 hl (k := 3) rfl (nI_1 _) (by decide) rfl (fun ls hl => ?_)
                refine lv_goto (tgt := 50) hx hb dX4_layLeft_114 (by decide) ?_
                exact k21 (hm_put x50 (b + 6) i41 (nI (i33 + 1))) (by unfold fX4_layLeft_L50; rw [if_pos c23, if_pos c25, if_pos c26]) H locs ls hM hS (lv_sub hl [1, 2, 3, 0] rfl)
        · skip
          refine lv_iload hx hb dX4_layLeft_50 (lv_at hl 3 rfl) ?_
          refine lv_bipush (v := nI 8) hx hb dX4_layLeft_52 (by decide) ?_
          refine mr_geN (x := 8) (y := 8) (tgt := 117) C0 dX4_layLeft_54 (by decide) (by decide) (by decide) (fun _ => ?_) (fun c27 => absurd c27 (by decide))
          refine lv_iinc (v := nI (i41 + 1)) (lv' := [(3, .int (nI (i41 + 1))), (0, .ref b), (2, .int (nI i33)), (4, .int (nI 8))]) hx hb dX4_layLeft_117 hl (k := 2) rfl (nI_1 _) (by decide) rfl (fun ls hl => ?_)
          refine lv_goto (tgt := 41) hx hb dX4_layLeft_120 (by decide) ?_
          have hf28 := Eq.trans (a := x50) rfl hd
          exact stp16 x50 hf28 H locs ls hM hS (lv_sub hl [1, 2, 0] rfl)
      · skip
        refine lv_iload_n hx hb dX4_layLeft_41 rfl (lv_at hl 2 rfl) ?_
        refine lv_bipush (v := nI 8) hx hb dX4_layLeft_42 (by decide) ?_
        refine mr_geN (x := 8) (y := 8) (tgt := 123) C0 dX4_layLeft_44 (by decide) (by decide) (by decide) (fun _ => ?_) (fun c29 => absurd c29 (by decide))
        refine lv_iinc (v := nI (i33 + 1)) (lv' := [(2, .int (nI (i33 + 1))), (0, .ref b), (3, .int (nI 8))]) hx hb dX4_layLeft_123 hl (k := 1) rfl (nI_1 _) (by decide) rfl (fun ls hl => ?_)
        refine lv_goto (tgt := 33) hx hb dX4_layLeft_126 (by decide) ?_
        exact stp11 (lp 8 (fun i41 x41 => fX4_layLeft_L41 I b g0 i33 x33 i41 x41) x33) rfl H locs ls hM hS (lv_sub hl [1, 0] rfl)
    · skip
      refine lv_iload_n hx hb dX4_layLeft_33 rfl (lv_at hl 1 rfl) ?_
      refine lv_bipush (v := nI 8) hx hb dX4_layLeft_34 (by decide) ?_
      refine mr_geN (x := 8) (y := 8) (tgt := 129) C0 dX4_layLeft_36 (by decide) (by decide) (by decide) (fun _ => ?_) (fun c30 => absurd c30 (by decide))
      have eF : (lp 8 (fun i33 x33 => fX4_layLeft_L33 I b g0 i33 x33) (lp 8 (fun i2 x2 => if i2 = g0 then hm_put x2 (b + 6) i2 (nI 0) else hm_put x2 (b + 6) i2 (-9)) I)) = fX4_layLeft I b g0 := rfl
      exact mr_vret C0 hr hlk hQ hS rfl (by rw [← eF]; exact hM) (Nat.le_refl _) (Nat.le_refl _) dX4_layLeft_129
