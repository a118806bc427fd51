/-! part 73: isNext (laid by wip/p23/lay9.py) -/
theorem st5_ne {w : Nat → Int32} {t s : Nat} (h : candR w s = false) : ¬ fStrm w t s 5 = nI 1 := by
  rw [fStrm_5]
  by_cases q : cM w s = 0
  · rw [if_pos q]; decide
  · rw [if_neg q, if_neg (by rw [h]; decide)]; decide
theorem st5_1 {w : Nat → Int32} {t s : Nat} (h : candR w s = true) : fStrm w t s 5 = nI 1 := (fStrm_5 w t s).trans ((if_neg (by have := (cand_c h).1; omega)).trans (if_pos h))
theorem nx_lt {w : Nat → Int32} {t s : Nat} (hG : Good w t) (hE : Ex w) (hn : nxtN w < 8) (hs : s < 8) (hc : candR w s = true) :
    ¬ (w (16 + s)).toInt64 * (w (8 + nxtN w)).toInt64 < (w (16 + nxtN w)).toInt64 * (w (8 + s)).toInt64 := by
  rcases nxt_least hG hE with h | ⟨h1, -⟩
  · omega
  · have := h1 s hs hc
    unfold amI weI at this
    rw [Int64.lt_iff_toInt_lt, mul_exact, mul_exact]
    omega
theorem nx_eq {w : Nat → Int32} {t s : Nat} (hG : Good w t) (hE : Ex w) (hn : nxtN w < 8) (hs : s < 8) (hc : candR w s = true) (he : (w (16 + s)).toInt64 * (w (8 + nxtN w)).toInt64 = (w (16 + nxtN w)).toInt64 * (w (8 + s)).toInt64) : nxtN w ≤ s := by
  rcases nxt_least hG hE with h | ⟨-, h2⟩
  · omega
  · rcases Nat.lt_or_ge s (nxtN w) with q | q
    · have h3 := h2 s q hs hc
      have h4 := congrArg Int64.toInt he
      rw [mul_exact, mul_exact] at h4
      unfold amI weI at h3
      omega
    · exact q
set_option maxHeartbeats 4000000 in
set_option maxRecDepth 100000 in
theorem in_f {p : Program} {l : Launch} {e : Env} {R : Room} {s : State} {m : MethodId} {args : Array Value} {below : List Frame} {meth : Method} {c : Code} {Qq : State → Prop} {D : va_G} {T : Nat → ClassId} {H0 : Heap} {x n t : Nat} {w : Nat → Int32} {P Q : Nat → Nat → Int32} {kp : Nat → Bool} {s0 : Nat} {H : Heap} {locs : List Loc} {ls : Array Slot} (C0 : Cx p s m args c cL_isNext 7 wsL_isNext RL D T) (hR : R = { frames := 8, cells := 0, slots := 0, locals := 190 }) (hG : Good w t) (hE : Ex w) (hn : nxtN w < 8) (hs : s0 < 8) (hc : candR w s0 = false) (hW : Wo D T x t (n, w, P, Q, kp) H) (hS : va_S (Rg x) H0 H locs) (hl : lv_has ls 7 [(0, .ref x), (1, .int (nI (nxtN w))), (2, .int (nI s0))])
    (kk : ∀ (H1 : Heap) (locs1 : List Loc) (ls1 : Array Slot), Wo D T x t (n, w, P, Q, kp) H1 → va_S (Rg x) H0 H1 locs1 → lv_has ls1 7 [(0, .ref x), (1, .int (nI (nxtN w))), (2, .int (nI (s0 + 1)))] → W p l e R s m args below meth c H1 locs1 0 0 Qq (F0 m 9 ls1 [])) : W p l e R s m args below meth c H locs 0 0 Qq (F0 m 9 ls []) := by
  have hx := C0.1.1
  have hb := C0.1.2.1
  subst hR
  refine lv_iload_n hx hb dL_isNext_9 rfl (lv_at hl 2 rfl) ?_
  refine lv_bipush (v := nI 8) hx hb dL_isNext_10 (by decide) ?_
  refine mr_geN (x := s0) (y := 8) (tgt := 89) C0 dL_isNext_12 (by decide) (by omega) (by omega) (fun c12 => absurd c12 (by omega)) (fun c12 => ?_)
  clear c12
  refine lv_iload_n hx hb dL_isNext_15 rfl (lv_at hl 1 rfl) ?_
  refine lv_if_lt (tgt := 89) hx hb dL_isNext_16 (by decide) (fun c16 => absurd c16 (nI_pos (by omega))) (fun c16 => ?_)
  clear c16
  refine lv_aload_n hx hb dL_isNext_19 rfl (lv_at hl 0 rfl) ?_
  refine lv_iload_n hx hb dL_isNext_20 rfl (lv_at hl 2 rfl) ?_
  refine lv_iconst (v := nI 5) hx hb dL_isNext_21 (by decide) ?_
  refine mo_call (x := x) (As := [.int (nI s0), .int (nI 5)]) (rest := []) (st1 := [.int (fStrm w t s0 5)]) C0 (op_stream hs (by decide)) hW (fun rm x1 x2 x3 x4 => cwV 2 C0.1.2.2.2.2 gL_isNext_X3_stream rfl x1 x2 (by decide +kernel) ⟨by show _ ≤ 8; omega, by show _ ≤ 190; omega⟩) hS (fun _ h => h) rfl rfl rfl hl.1 (Nat.le_of_ble_eq_true rfl) dL_isNext_22 ⟨Nat.le_of_ble_eq_true rfl, Nat.le_of_ble_eq_true rfl⟩ (fun H1 locs1 hW hF hS1 => ?_)
  clear hS
  have hS := hS1
  clear hS1 hF
  refine lv_iconst (v := nI 1) hx hb dL_isNext_25 (by decide) ?_
  refine lv_icmp_ne (tgt := 83) hx hb dL_isNext_26 (by decide) (fun c26 => ?_) (fun c26 => absurd c26 (st5_ne hc))
  clear c26
  refine lv_iinc (k := 2) (v := nI (s0 + 1)) (lv' := [(2, .int (nI (s0 + 1))), (0, .ref x), (1, .int (nI (nxtN w)))]) hx hb dL_isNext_83 hl rfl (by rw [show Int32.ofInt 1 = nI 1 from by decide, nI_add]) (by decide) rfl (fun ls hl => ?_)
  refine lv_goto (tgt := 9) hx hb dL_isNext_86 (by decide) ?_
  exact kk _ _ _ hW hS (lv_sub hl [1, 2, 0] rfl)
set_option maxHeartbeats 4000000 in
set_option maxRecDepth 100000 in
theorem in_n {p : Program} {l : Launch} {e : Env} {R : Room} {s : State} {m : MethodId} {args : Array Value} {below : List Frame} {meth : Method} {c : Code} {Qq : State → Prop} {D : va_G} {T : Nat → ClassId} {H0 : Heap} {x n t : Nat} {w : Nat → Int32} {P Q : Nat → Nat → Int32} {kp : Nat → Bool} {s0 : Nat} {H : Heap} {locs : List Loc} {ls : Array Slot} (C0 : Cx p s m args c cL_isNext 7 wsL_isNext RL D T) (hR : R = { frames := 8, cells := 0, slots := 0, locals := 190 }) (hG : Good w t) (hE : Ex w) (hn : nxtN w < 8) (hs : s0 < 8) (hc : candR w s0 = true) (he : ¬ (w (16 + s0)).toInt64 * (w (8 + nxtN w)).toInt64 = (w (16 + nxtN w)).toInt64 * (w (8 + s0)).toInt64) (hW : Wo D T x t (n, w, P, Q, kp) H) (hS : va_S (Rg x) H0 H locs) (hl : lv_has ls 7 [(0, .ref x), (1, .int (nI (nxtN w))), (2, .int (nI s0))])
    (kk : ∀ (H1 : Heap) (locs1 : List Loc) (ls1 : Array Slot), Wo D T x t (n, w, P, Q, kp) H1 → va_S (Rg x) H0 H1 locs1 → lv_has ls1 7 [(0, .ref x), (1, .int (nI (nxtN w))), (2, .int (nI (s0 + 1)))] → W p l e R s m args below meth c H1 locs1 0 0 Qq (F0 m 9 ls1 [])) : W p l e R s m args below meth c H locs 0 0 Qq (F0 m 9 ls []) := by
  have hx := C0.1.1
  have hb := C0.1.2.1
  subst hR
  refine lv_iload_n hx hb dL_isNext_9 rfl (lv_at hl 2 rfl) ?_
  refine lv_bipush (v := nI 8) hx hb dL_isNext_10 (by decide) ?_
  refine mr_geN (x := s0) (y := 8) (tgt := 89) C0 dL_isNext_12 (by decide) (by omega) (by omega) (fun c12 => absurd c12 (by omega)) (fun c12 => ?_)
  clear c12
  refine lv_iload_n hx hb dL_isNext_15 rfl (lv_at hl 1 rfl) ?_
  refine lv_if_lt (tgt := 89) hx hb dL_isNext_16 (by decide) (fun c16 => absurd c16 (nI_pos (by omega))) (fun c16 => ?_)
  clear c16
  refine lv_aload_n hx hb dL_isNext_19 rfl (lv_at hl 0 rfl) ?_
  refine lv_iload_n hx hb dL_isNext_20 rfl (lv_at hl 2 rfl) ?_
  refine lv_iconst (v := nI 5) hx hb dL_isNext_21 (by decide) ?_
  refine mo_call (x := x) (As := [.int (nI s0), .int (nI 5)]) (rest := []) (st1 := [.int (fStrm w t s0 5)]) C0 (op_stream hs (by decide)) hW (fun rm x1 x2 x3 x4 => cwV 2 C0.1.2.2.2.2 gL_isNext_X3_stream rfl x1 x2 (by decide +kernel) ⟨by show _ ≤ 8; omega, by show _ ≤ 190; omega⟩) hS (fun _ h => h) rfl rfl rfl hl.1 (Nat.le_of_ble_eq_true rfl) dL_isNext_22 ⟨Nat.le_of_ble_eq_true rfl, Nat.le_of_ble_eq_true rfl⟩ (fun H1 locs1 hW hF hS1 => ?_)
  clear hS
  have hS := hS1
  clear hS1 hF
  refine mr_top (y := nI 1) (st5_1 hc) ?_
  refine lv_iconst (v := nI 1) hx hb dL_isNext_25 (by decide) ?_
  refine lv_icmp_ne (tgt := 83) hx hb dL_isNext_26 (by decide) (fun c26 => absurd rfl c26) (fun c26 => ?_)
  clear c26
  refine lv_aload_n hx hb dL_isNext_29 rfl (lv_at hl 0 rfl) ?_
  refine lv_iload_n hx hb dL_isNext_30 rfl (lv_at hl 2 rfl) ?_
  refine lv_iconst (v := nI 2) hx hb dL_isNext_31 (by decide) ?_
  refine mo_call (x := x) (As := [.int (nI s0), .int (nI 2)]) (rest := []) (st1 := [.int (fStrm w t s0 2)]) C0 (op_stream hs (by decide)) hW (fun rm x1 x2 x3 x4 => cwV 2 C0.1.2.2.2.2 gL_isNext_X3_stream rfl x1 x2 (by decide +kernel) ⟨by show _ ≤ 8; omega, by show _ ≤ 190; omega⟩) hS (fun _ h => h) rfl rfl rfl hl.1 (Nat.le_of_ble_eq_true rfl) dL_isNext_32 ⟨Nat.le_of_ble_eq_true rfl, Nat.le_of_ble_eq_true rfl⟩ (fun H1 locs1 hW hF hS1 => ?_)
  clear hS
  have hS := hS1
  clear hS1 hF
  refine mr_top (y := w (16 + s0)) (fStrm_2 w t _) ?_
  refine lv_i2l hx hb dL_isNext_35 rfl ?_
  refine lv_aload_n hx hb dL_isNext_36 rfl (lv_at hl 0 rfl) ?_
  refine lv_iload_n hx hb dL_isNext_37 rfl (lv_at hl 1 rfl) ?_
  refine lv_iconst (v := nI 1) hx hb dL_isNext_38 (by decide) ?_
  refine mo_call (x := x) (As := [.int (nI (nxtN w)), .int (nI 1)]) (rest := [.long ((w (16 + s0)).toInt64)]) (st1 := [.int (fStrm w t (nxtN w) 1), .long ((w (16 + s0)).toInt64)]) C0 (op_stream hn (by decide)) hW (fun rm x1 x2 x3 x4 => cwV 2 C0.1.2.2.2.2 gL_isNext_X3_stream rfl x1 x2 (by decide +kernel) ⟨by show _ ≤ 8; omega, by show _ ≤ 190; omega⟩) hS (fun _ h => h) rfl rfl rfl hl.1 (Nat.le_of_ble_eq_true rfl) dL_isNext_39 ⟨Nat.le_of_ble_eq_true rfl, Nat.le_of_ble_eq_true rfl⟩ (fun H1 locs1 hW hF hS1 => ?_)
  clear hS
  have hS := hS1
  clear hS1 hF
  refine mr_top (y := w (8 + nxtN w)) (fStrm_1 w t _) ?_
  refine lv_i2l hx hb dL_isNext_42 rfl ?_
  refine lv_lmul hx hb dL_isNext_43 ?_
  refine lv_lstore_n (lv' := [(3, .long (((w (16 + s0)).toInt64) * ((w (8 + nxtN w)).toInt64))), (0, .ref x), (1, .int (nI (nxtN w))), (2, .int (nI s0))]) hx hb dL_isNext_44 rfl hl (by decide) rfl (fun ls hl => ?_)
  refine lv_aload_n hx hb dL_isNext_45 rfl (lv_at hl 1 rfl) ?_
  refine lv_iload_n hx hb dL_isNext_46 rfl (lv_at hl 2 rfl) ?_
  refine lv_iconst (v := nI 2) hx hb dL_isNext_47 (by decide) ?_
  refine mo_call (x := x) (As := [.int (nI (nxtN w)), .int (nI 2)]) (rest := []) (st1 := [.int (fStrm w t (nxtN w) 2)]) C0 (op_stream hn (by decide)) hW (fun rm x1 x2 x3 x4 => cwV 2 C0.1.2.2.2.2 gL_isNext_X3_stream rfl x1 x2 (by decide +kernel) ⟨by show _ ≤ 8; omega, by show _ ≤ 190; omega⟩) hS (fun _ h => h) rfl rfl rfl hl.1 (Nat.le_of_ble_eq_true rfl) dL_isNext_48 ⟨Nat.le_of_ble_eq_true rfl, Nat.le_of_ble_eq_true rfl⟩ (fun H1 locs1 hW hF hS1 => ?_)
  clear hS
  have hS := hS1
  clear hS1 hF
  refine mr_top (y := w (16 + nxtN w)) (fStrm_2 w t _) ?_
  refine lv_i2l hx hb dL_isNext_51 rfl ?_
  refine lv_aload_n hx hb dL_isNext_52 rfl (lv_at hl 1 rfl) ?_
  refine lv_iload_n hx hb dL_isNext_53 rfl (lv_at hl 3 rfl) ?_
  refine lv_iconst (v := nI 1) hx hb dL_isNext_54 (by decide) ?_
  refine mo_call (x := x) (As := [.int (nI s0), .int (nI 1)]) (rest := [.long ((w (16 + nxtN w)).toInt64)]) (st1 := [.int (fStrm w t s0 1), .long ((w (16 + nxtN w)).toInt64)]) C0 (op_stream hs (by decide)) hW (fun rm x1 x2 x3 x4 => cwV 2 C0.1.2.2.2.2 gL_isNext_X3_stream rfl x1 x2 (by decide +kernel) ⟨by show _ ≤ 8; omega, by show _ ≤ 190; omega⟩) hS (fun _ h => h) rfl rfl rfl hl.1 (Nat.le_of_ble_eq_true rfl) dL_isNext_55 ⟨Nat.le_of_ble_eq_true rfl, Nat.le_of_ble_eq_true rfl⟩ (fun H1 locs1 hW hF hS1 => ?_)
  clear hS
  have hS := hS1
  clear hS1 hF
  refine mr_top (y := w (8 + s0)) (fStrm_1 w t _) ?_
  refine lv_i2l hx hb dL_isNext_58 rfl ?_
  refine lv_lmul hx hb dL_isNext_59 ?_
  refine lv_lstore (lv' := [(5, .long (((w (16 + nxtN w)).toInt64) * ((w (8 + s0)).toInt64))), (3, .long (((w (16 + s0)).toInt64) * ((w (8 + nxtN w)).toInt64))), (0, .ref x), (1, .int (nI (nxtN w))), (2, .int (nI s0))]) hx hb dL_isNext_60 hl (by decide) rfl (fun ls hl => ?_)
  refine lv_lload_n hx hb dL_isNext_62 rfl (lv_at hl 1 rfl) ?_
  refine lv_lload hx hb dL_isNext_63 (lv_at hl 0 rfl) ?_
  refine W.lcmp hx hb dL_isNext_65 ?_
  refine lv_if_lt (tgt := 81) hx hb dL_isNext_66 (by decide) (fun c66 => absurd ((lg_cmp_lt _ _).mp c66) (nx_lt hG hE hn hs hc)) (fun c66 => ?_)
  clear c66
  refine lv_lload_n hx hb dL_isNext_69 rfl (lv_at hl 1 rfl) ?_
  refine lv_lload hx hb dL_isNext_70 (lv_at hl 0 rfl) ?_
  refine W.lcmp hx hb dL_isNext_72 ?_
  refine lv_if_ne (tgt := 83) hx hb dL_isNext_73 (by decide) (fun c73 => ?_) (fun c73 => absurd ((lg_cmp_eq _ _).mp c73) he)
  clear c73
  refine lv_iinc (k := 4) (v := nI (s0 + 1)) (lv' := [(2, .int (nI (s0 + 1))), (5, .long (((w (16 + nxtN w)).toInt64) * ((w (8 + s0)).toInt64))), (3, .long (((w (16 + s0)).toInt64) * ((w (8 + nxtN w)).toInt64))), (0, .ref x), (1, .int (nI (nxtN w)))]) hx hb dL_isNext_83 hl rfl (by rw [show Int32.ofInt 1 = nI 1 from by decide, nI_add]) (by decide) rfl (fun ls hl => ?_)
  refine lv_goto (tgt := 9) hx hb dL_isNext_86 (by decide) ?_
  exact kk _ _ _ hW hS (lv_sub hl [3, 4, 0] rfl)
set_option maxHeartbeats 4000000 in
set_option maxRecDepth 100000 in
theorem in_e {p : Program} {l : Launch} {e : Env} {R : Room} {s : State} {m : MethodId} {args : Array Value} {below : List Frame} {meth : Method} {c : Code} {Qq : State → Prop} {D : va_G} {T : Nat → ClassId} {H0 : Heap} {x n t : Nat} {w : Nat → Int32} {P Q : Nat → Nat → Int32} {kp : Nat → Bool} {s0 : Nat} {H : Heap} {locs : List Loc} {ls : Array Slot} (C0 : Cx p s m args c cL_isNext 7 wsL_isNext RL D T) (hR : R = { frames := 8, cells := 0, slots := 0, locals := 190 }) (hG : Good w t) (hE : Ex w) (hn : nxtN w < 8) (hs : s0 < 8) (hc : candR w s0 = true) (he : (w (16 + s0)).toInt64 * (w (8 + nxtN w)).toInt64 = (w (16 + nxtN w)).toInt64 * (w (8 + s0)).toInt64) (hW : Wo D T x t (n, w, P, Q, kp) H) (hS : va_S (Rg x) H0 H locs) (hl : lv_has ls 7 [(0, .ref x), (1, .int (nI (nxtN w))), (2, .int (nI s0))])
    (kk : ∀ (H1 : Heap) (locs1 : List Loc) (ls1 : Array Slot), Wo D T x t (n, w, P, Q, kp) H1 → va_S (Rg x) H0 H1 locs1 → lv_has ls1 7 [(0, .ref x), (1, .int (nI (nxtN w))), (2, .int (nI (s0 + 1)))] → W p l e R s m args below meth c H1 locs1 0 0 Qq (F0 m 9 ls1 [])) : W p l e R s m args below meth c H locs 0 0 Qq (F0 m 9 ls []) := by
  have hx := C0.1.1
  have hb := C0.1.2.1
  subst hR
  refine lv_iload_n hx hb dL_isNext_9 rfl (lv_at hl 2 rfl) ?_
  refine lv_bipush (v := nI 8) hx hb dL_isNext_10 (by decide) ?_
  refine mr_geN (x := s0) (y := 8) (tgt := 89) C0 dL_isNext_12 (by decide) (by omega) (by omega) (fun c12 => absurd c12 (by omega)) (fun c12 => ?_)
  clear c12
  refine lv_iload_n hx hb dL_isNext_15 rfl (lv_at hl 1 rfl) ?_
  refine lv_if_lt (tgt := 89) hx hb dL_isNext_16 (by decide) (fun c16 => absurd c16 (nI_pos (by omega))) (fun c16 => ?_)
  clear c16
  refine lv_aload_n hx hb dL_isNext_19 rfl (lv_at hl 0 rfl) ?_
  refine lv_iload_n hx hb dL_isNext_20 rfl (lv_at hl 2 rfl) ?_
  refine lv_iconst (v := nI 5) hx hb dL_isNext_21 (by decide) ?_
  refine mo_call (x := x) (As := [.int (nI s0), .int (nI 5)]) (rest := []) (st1 := [.int (fStrm w t s0 5)]) C0 (op_stream hs (by decide)) hW (fun rm x1 x2 x3 x4 => cwV 2 C0.1.2.2.2.2 gL_isNext_X3_stream rfl x1 x2 (by decide +kernel) ⟨by show _ ≤ 8; omega, by show _ ≤ 190; omega⟩) hS (fun _ h => h) rfl rfl rfl hl.1 (Nat.le_of_ble_eq_true rfl) dL_isNext_22 ⟨Nat.le_of_ble_eq_true rfl, Nat.le_of_ble_eq_true rfl⟩ (fun H1 locs1 hW hF hS1 => ?_)
  clear hS
  have hS := hS1
  clear hS1 hF
  refine mr_top (y := nI 1) (st5_1 hc) ?_
  refine lv_iconst (v := nI 1) hx hb dL_isNext_25 (by decide) ?_
  refine lv_icmp_ne (tgt := 83) hx hb dL_isNext_26 (by decide) (fun c26 => absurd rfl c26) (fun c26 => ?_)
  clear c26
  refine lv_aload_n hx hb dL_isNext_29 rfl (lv_at hl 0 rfl) ?_
  refine lv_iload_n hx hb dL_isNext_30 rfl (lv_at hl 2 rfl) ?_
  refine lv_iconst (v := nI 2) hx hb dL_isNext_31 (by decide) ?_
  refine mo_call (x := x) (As := [.int (nI s0), .int (nI 2)]) (rest := []) (st1 := [.int (fStrm w t s0 2)]) C0 (op_stream hs (by decide)) hW (fun rm x1 x2 x3 x4 => cwV 2 C0.1.2.2.2.2 gL_isNext_X3_stream rfl x1 x2 (by decide +kernel) ⟨by show _ ≤ 8; omega, by show _ ≤ 190; omega⟩) hS (fun _ h => h) rfl rfl rfl hl.1 (Nat.le_of_ble_eq_true rfl) dL_isNext_32 ⟨Nat.le_of_ble_eq_true rfl, Nat.le_of_ble_eq_true rfl⟩ (fun H1 locs1 hW hF hS1 => ?_)
  clear hS
  have hS := hS1
  clear hS1 hF
  refine mr_top (y := w (16 + s0)) (fStrm_2 w t _) ?_
  refine lv_i2l hx hb dL_isNext_35 rfl ?_
  refine lv_aload_n hx hb dL_isNext_36 rfl (lv_at hl 0 rfl) ?_
  refine lv_iload_n hx hb dL_isNext_37 rfl (lv_at hl 1 rfl) ?_
  refine lv_iconst (v := nI 1) hx hb dL_isNext_38 (by decide) ?_
  refine mo_call (x := x) (As := [.int (nI (nxtN w)), .int (nI 1)]) (rest := [.long ((w (16 + s0)).toInt64)]) (st1 := [.int (fStrm w t (nxtN w) 1), .long ((w (16 + s0)).toInt64)]) C0 (op_stream hn (by decide)) hW (fun rm x1 x2 x3 x4 => cwV 2 C0.1.2.2.2.2 gL_isNext_X3_stream rfl x1 x2 (by decide +kernel) ⟨by show _ ≤ 8; omega, by show _ ≤ 190; omega⟩) hS (fun _ h => h) rfl rfl rfl hl.1 (Nat.le_of_ble_eq_true rfl) dL_isNext_39 ⟨Nat.le_of_ble_eq_true rfl, Nat.le_of_ble_eq_true rfl⟩ (fun H1 locs1 hW hF hS1 => ?_)
  clear hS
  have hS := hS1
  clear hS1 hF
  refine mr_top (y := w (8 + nxtN w)) (fStrm_1 w t _) ?_
  refine lv_i2l hx hb dL_isNext_42 rfl ?_
  refine lv_lmul hx hb dL_isNext_43 ?_
  refine lv_lstore_n (lv' := [(3, .long (((w (16 + s0)).toInt64) * ((w (8 + nxtN w)).toInt64))), (0, .ref x), (1, .int (nI (nxtN w))), (2, .int (nI s0))]) hx hb dL_isNext_44 rfl hl (by decide) rfl (fun ls hl => ?_)
  refine lv_aload_n hx hb dL_isNext_45 rfl (lv_at hl 1 rfl) ?_
  refine lv_iload_n hx hb dL_isNext_46 rfl (lv_at hl 2 rfl) ?_
  refine lv_iconst (v := nI 2) hx hb dL_isNext_47 (by decide) ?_
  refine mo_call (x := x) (As := [.int (nI (nxtN w)), .int (nI 2)]) (rest := []) (st1 := [.int (fStrm w t (nxtN w) 2)]) C0 (op_stream hn (by decide)) hW (fun rm x1 x2 x3 x4 => cwV 2 C0.1.2.2.2.2 gL_isNext_X3_stream rfl x1 x2 (by decide +kernel) ⟨by show _ ≤ 8; omega, by show _ ≤ 190; omega⟩) hS (fun _ h => h) rfl rfl rfl hl.1 (Nat.le_of_ble_eq_true rfl) dL_isNext_48 ⟨Nat.le_of_ble_eq_true rfl, Nat.le_of_ble_eq_true rfl⟩ (fun H1 locs1 hW hF hS1 => ?_)
  clear hS
  have hS := hS1
  clear hS1 hF
  refine mr_top (y := w (16 + nxtN w)) (fStrm_2 w t _) ?_
  refine lv_i2l hx hb dL_isNext_51 rfl ?_
  refine lv_aload_n hx hb dL_isNext_52 rfl (lv_at hl 1 rfl) ?_
  refine lv_iload_n hx hb dL_isNext_53 rfl (lv_at hl 3 rfl) ?_
  refine lv_iconst (v := nI 1) hx hb dL_isNext_54 (by decide) ?_
  refine mo_call (x := x) (As := [.int (nI s0), .int (nI 1)]) (rest := [.long ((w (16 + nxtN w)).toInt64)]) (st1 := [.int (fStrm w t s0 1), .long ((w (16 + nxtN w)).toInt64)]) C0 (op_stream hs (by decide)) hW (fun rm x1 x2 x3 x4 => cwV 2 C0.1.2.2.2.2 gL_isNext_X3_stream rfl x1 x2 (by decide +kernel) ⟨by show _ ≤ 8; omega, by show _ ≤ 190; omega⟩) hS (fun _ h => h) rfl rfl rfl hl.1 (Nat.le_of_ble_eq_true rfl) dL_isNext_55 ⟨Nat.le_of_ble_eq_true rfl, Nat.le_of_ble_eq_true rfl⟩ (fun H1 locs1 hW hF hS1 => ?_)
  clear hS
  have hS := hS1
  clear hS1 hF
  refine mr_top (y := w (8 + s0)) (fStrm_1 w t _) ?_
  refine lv_i2l hx hb dL_isNext_58 rfl ?_
  refine lv_lmul hx hb dL_isNext_59 ?_
  refine lv_lstore (lv' := [(5, .long (((w (16 + nxtN w)).toInt64) * ((w (8 + s0)).toInt64))), (3, .long (((w (16 + s0)).toInt64) * ((w (8 + nxtN w)).toInt64))), (0, .ref x), (1, .int (nI (nxtN w))), (2, .int (nI s0))]) hx hb dL_isNext_60 hl (by decide) rfl (fun ls hl => ?_)
  refine lv_lload_n hx hb dL_isNext_62 rfl (lv_at hl 1 rfl) ?_
  refine lv_lload hx hb dL_isNext_63 (lv_at hl 0 rfl) ?_
  refine W.lcmp hx hb dL_isNext_65 ?_
  refine lv_if_lt (tgt := 81) hx hb dL_isNext_66 (by decide) (fun c66 => absurd ((lg_cmp_lt _ _).mp c66) (nx_lt hG hE hn hs hc)) (fun c66 => ?_)
  clear c66
  refine lv_lload_n hx hb dL_isNext_69 rfl (lv_at hl 1 rfl) ?_
  refine lv_lload hx hb dL_isNext_70 (lv_at hl 0 rfl) ?_
  refine W.lcmp hx hb dL_isNext_72 ?_
  refine lv_if_ne (tgt := 83) hx hb dL_isNext_73 (by decide) (fun c73 => absurd ((lg_cmp_eq _ _).mpr he) c73) (fun c73 => ?_)
  clear c73
  refine lv_iload_n hx hb dL_isNext_76 rfl (lv_at hl 4 rfl) ?_
  refine lv_iload_n hx hb dL_isNext_77 rfl (lv_at hl 3 rfl) ?_
  refine mr_geN (x := s0) (y := nxtN w) (tgt := 83) C0 dL_isNext_78 (by decide) (by omega) (by omega) (fun c78 => ?_) (fun c78 => absurd c78 (by have := nx_eq hG hE hn hs hc he; omega))
  clear c78
  refine lv_iinc (k := 4) (v := nI (s0 + 1)) (lv' := [(2, .int (nI (s0 + 1))), (5, .long (((w (16 + nxtN w)).toInt64) * ((w (8 + s0)).toInt64))), (3, .long (((w (16 + s0)).toInt64) * ((w (8 + nxtN w)).toInt64))), (0, .ref x), (1, .int (nI (nxtN w)))]) hx hb dL_isNext_83 hl rfl (by rw [show Int32.ofInt 1 = nI 1 from by decide, nI_add]) (by decide) rfl (fun ls hl => ?_)
  refine lv_goto (tgt := 9) hx hb dL_isNext_86 (by decide) ?_
  exact kk _ _ _ hW hS (lv_sub hl [3, 4, 0] rfl)
set_option maxHeartbeats 4000000 in
set_option maxRecDepth 100000 in
theorem in_loop {p : Program} {l : Launch} {e : Env} {R : Room} {s : State} {m : MethodId} {args : Array Value} {below : List Frame} {meth : Method} {c : Code} {Qq : State → Prop} {D : va_G} {T : Nat → ClassId} {H0 : Heap} {x n t : Nat} {w : Nat → Int32} {P Q : Nat → Nat → Int32} {kp : Nat → Bool} (C0 : Cx p s m args c cL_isNext 7 wsL_isNext RL D T) (hR : R = { frames := 8, cells := 0, slots := 0, locals := 190 }) (hG : Good w t) (hE : Ex w) (hn : nxtN w < 8)
    (kk : ∀ (H1 : Heap) (locs1 : List Loc) (ls1 : Array Slot), Wo D T x t (n, w, P, Q, kp) H1 → va_S (Rg x) H0 H1 locs1 → W p l e R s m args below meth c H1 locs1 0 0 Qq (F0 m 89 ls1 [])) :
    ∀ (r s0 : Nat) (H : Heap) (locs : List Loc) (ls : Array Slot), s0 + r = 8 → Wo D T x t (n, w, P, Q, kp) H → va_S (Rg x) H0 H locs → lv_has ls 7 [(0, .ref x), (1, .int (nI (nxtN w))), (2, .int (nI s0))] → W p l e R s m args below meth c H locs 0 0 Qq (F0 m 9 ls []) := by
  have hx := C0.1.1
  have hb := C0.1.2.1
  subst hR
  intro r
  induction r with
  | zero =>
    intro s0 H locs ls hs8 hW hS hl
    have e : s0 = 8 := by omega
    subst e
    refine lv_iload_n hx hb dL_isNext_9 rfl (lv_at hl 2 rfl) ?_
    refine lv_bipush (v := nI 8) hx hb dL_isNext_10 (by decide) ?_
    refine mr_geN (x := 8) (y := 8) (tgt := 89) C0 dL_isNext_12 (by decide) (by omega) (by omega) (fun c => ?_) (fun c => absurd c (by omega))
    exact kk _ _ _ hW hS
  | succ r ih =>
    intro s0 H locs ls hs8 hW hS hl
    have hs : s0 < 8 := by omega
    have go : ∀ (H1 : Heap) (locs1 : List Loc) (ls1 : Array Slot), Wo D T x t (n, w, P, Q, kp) H1 → va_S (Rg x) H0 H1 locs1 → lv_has ls1 7 [(0, .ref x), (1, .int (nI (nxtN w))), (2, .int (nI (s0 + 1)))] → W p l e { frames := 8, cells := 0, slots := 0, locals := 190 } s m args below meth c H1 locs1 0 0 Qq (F0 m 9 ls1 []) := fun H1 locs1 ls1 hW1 hS1 hl1 => ih (s0 + 1) H1 locs1 ls1 (by omega) hW1 hS1 hl1
    by_cases hc : candR w s0 = true
    · by_cases he : (w (16 + s0)).toInt64 * (w (8 + nxtN w)).toInt64 = (w (16 + nxtN w)).toInt64 * (w (8 + s0)).toInt64
      · exact in_e C0 rfl hG hE hn hs hc he hW hS hl go
      · exact in_n C0 rfl hG hE hn hs hc he hW hS hl go
    · exact in_f C0 rfl hG hE hn hs (nf hc) hW hS hl go
set_option maxHeartbeats 4000000 in
set_option maxRecDepth 100000 in
theorem ctL_isNext {l : Launch} {D : va_G} {T : Nat → ClassId} {x n t : Nat} {w : Nat → Int32} {P Q : Nat → Nat → Int32} {kp : Nat → Bool} (hG : Good w t) (hE : Ex w) :
    Ct l yL_isNext wsL_isNext { frames := 8, cells := 0, slots := 0, locals := 190 } 0 0 D T (Rg x) [.ref x] (fun H => Wo D T x t (n, w, P, Q, kp) H) (some (.int (bI true))) (fun H => Wo D T x t (n, w, P, Q, kp) H) := by
  refine Ct.ofW (cc := cL_isNext) (maxL := 7) (ret := (some .boolean)) (by decide) rfl (Nat.le_of_ble_eq_true rfl) ?_
  intro p e s m args below meth c ls R Qq hR hQ C0 hr hlk hname hW hl
  have hS : va_S (Rg x) s.heap s.heap [] := va_S.rf
  have hl : lv_has ls 7 [(0, .ref x)] := hl
  have hx := C0.1.1
  have hb := C0.1.2.1
  subst hR
  have h89 : nxtN w = 9 ∨ nxtN w < 8 := (nxt_spec w).elim (fun h => Or.inl h.1) (fun h => Or.inr h.1)
  rcases h89 with hn | hn
  · skip
    refine lv_aload_n hx hb dL_isNext_0 rfl (lv_at hl 0 rfl) ?_
    refine lv_bipush (v := nI 8) hx hb dL_isNext_1 (by decide) ?_
    refine mo_call (x := x) (As := [.int (nI 8)]) (rest := []) (st1 := [.int (fTold n w 8)]) C0 (op_told (by decide)) hW (fun rm x1 x2 x3 x4 => cwV 1 C0.1.2.2.2.2 gL_isNext_X3_told rfl x1 x2 (by decide +kernel) ⟨by show _ ≤ 8; omega, by show _ ≤ 190; omega⟩) hS (fun _ h => h) rfl rfl rfl hl.1 (Nat.le_of_ble_eq_true rfl) dL_isNext_3 ⟨Nat.le_of_ble_eq_true rfl, Nat.le_of_ble_eq_true rfl⟩ (fun H1 locs1 hW hF hS1 => ?_)
    clear hS
    have hS := hS1
    clear hS1 hF
    refine mr_top (y := -9) (congrArg enc hn) ?_
    refine lv_istore_n (lv' := [(1, .int (-9)), (0, .ref x)]) hx hb dL_isNext_6 rfl hl (by decide) rfl (fun ls hl => ?_)
    refine lv_iconst (v := nI 0) hx hb dL_isNext_7 (by decide) ?_
    refine lv_istore_n (lv' := [(2, .int (nI 0)), (1, .int (-9)), (0, .ref x)]) hx hb dL_isNext_8 rfl hl (by decide) rfl (fun ls hl => ?_)
    refine lv_iload_n hx hb dL_isNext_9 rfl (lv_at hl 0 rfl) ?_
    refine lv_bipush (v := nI 8) hx hb dL_isNext_10 (by decide) ?_
    refine mr_geN (x := 0) (y := 8) (tgt := 89) C0 dL_isNext_12 (by decide) (by decide) (by decide) (fun c12 => absurd c12 (by omega)) (fun c12 => ?_)
    clear c12
    refine lv_iload_n hx hb dL_isNext_15 rfl (lv_at hl 1 rfl) ?_
    refine lv_if_lt (tgt := 89) hx hb dL_isNext_16 (by decide) (fun c16 => ?_) (fun c16 => absurd (by decide) c16)
    clear c16
    refine lv_iconst (v := nI 1) hx hb dL_isNext_89 (by decide) ?_
    refine mr_top (y := bI true) (by decide) ?_
    exact mr_zret (b := true) C0 hr hlk hQ hS rfl hW (Nat.le_refl _) (Nat.le_refl _) dL_isNext_90
  · skip
    refine lv_aload_n hx hb dL_isNext_0 rfl (lv_at hl 0 rfl) ?_
    refine lv_bipush (v := nI 8) hx hb dL_isNext_1 (by decide) ?_
    refine mo_call (x := x) (As := [.int (nI 8)]) (rest := []) (st1 := [.int (fTold n w 8)]) C0 (op_told (by decide)) hW (fun rm x1 x2 x3 x4 => cwV 1 C0.1.2.2.2.2 gL_isNext_X3_told rfl x1 x2 (by decide +kernel) ⟨by show _ ≤ 8; omega, by show _ ≤ 190; omega⟩) hS (fun _ h => h) rfl rfl rfl hl.1 (Nat.le_of_ble_eq_true rfl) dL_isNext_3 ⟨Nat.le_of_ble_eq_true rfl, Nat.le_of_ble_eq_true rfl⟩ (fun H1 locs1 hW hF hS1 => ?_)
    clear hS
    have hS := hS1
    clear hS1 hF
    refine mr_top (y := nI (nxtN w)) (enc_lt hn) ?_
    refine lv_istore_n (lv' := [(1, .int (nI (nxtN w))), (0, .ref x)]) hx hb dL_isNext_6 rfl hl (by decide) rfl (fun ls hl => ?_)
    refine lv_iconst (v := nI 0) hx hb dL_isNext_7 (by decide) ?_
    refine lv_istore_n (lv' := [(2, .int (nI 0)), (1, .int (nI (nxtN w))), (0, .ref x)]) hx hb dL_isNext_8 rfl hl (by decide) rfl (fun ls hl => ?_)
    refine in_loop C0 rfl hG hE hn (fun H1 locs1 ls1 hW1 hS1 => ?_) 8 0 _ _ _ rfl hW hS (lv_sub hl [2, 1, 0] rfl)
    refine lv_iconst (v := nI 1) hx hb dL_isNext_89 (by decide) ?_
    refine mr_top (y := bI true) (by decide) ?_
    exact mr_zret (b := true) C0 hr hlk hQ hS1 rfl hW1 (Nat.le_refl _) (Nat.le_refl _) dL_isNext_90
