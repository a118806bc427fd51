/-! part 77: isOrder (laid by wip/p23/lay12.py) -/
def boN (w : Nat → Int32) (a b : Nat) : Nat := if w a = nI 1 ∧ w b = nI 1 then 1 else 0
theorem bo_le (w : Nat → Int32) (a b : Nat) : boN w a b ≤ 1 := by
  unfold boN
  by_cases q : w a = nI 1 ∧ w b = nI 1
  · rw [if_pos q]; exact Nat.le_refl 1
  · rw [if_neg q]; exact Nat.zero_le 1
theorem opn_01 {w : Nat → Int32} {t s : Nat} (hG : Good w t) (hs : s < 8) (h : ¬ w s = nI 1) : w s = nI 0 := (hG.2.1 s hs).1.resolve_right h
theorem opn_no {w : Nat → Int32} {t s : Nat} (hG : Good w t) (hs : s < 8) (h : ¬ w s = nI 1) : w s = nI 0 := opn_01 hG hs h
set_option maxHeartbeats 4000000 in
set_option maxRecDepth 100000 in
theorem io_1e {p : Program} {l : Launch} {e : Env} {R : Room} {s : State} {m : MethodId} {args : Array Value} {below : List Frame} {meth : Method} {c : Code} {Qq : State → Prop} {D : va_G} {T : Nat → ClassId} {H0 : Heap} {x n t : Nat} {w : Nat → Int32} {P Q : Nat → Nat → Int32} {kp : Nat → Bool} {a b p2 p3 p4 f6 : Nat} {H : Heap} {locs : List Loc} {ls : Array Slot} {e0 : Int32} {r0 : Nat} (C0 : Cx p s m args c cL_isOrder 13 wsL_isOrder RL D T) (hR : R = { frames := 8, cells := 0, slots := 0, locals := 190 }) (hG : Good w t) (hE : EpOk w e0 r0) (ha : a < 8) (hb8 : b < 8) (hab : a = b) (hW : Wo D T x t (n, w, P, Q, kp) H) (hS : va_S (Rg x) H0 H locs) (hl : lv_has ls 13 [(0, .ref x), (1, .int (e0)), (2, .int (nI p2)), (3, .int (nI p3)), (4, .int (nI p4)), (5, .int (nI a)), (6, .int (nI f6)), (7, .int (nI b))])
    (kk : ∀ (H1 : Heap) (locs1 : List Loc) (ls1 : Array Slot), Wo D T x t (n, w, P, Q, kp) H1 → va_S (Rg x) H0 H1 locs1 → lv_has ls1 13 [(0, .ref x), (1, .int (e0)), (2, .int (nI p2)), (3, .int (nI p3)), (4, .int (nI p4)), (5, .int (nI a)), (6, .int (nI f6)), (7, .int (nI b)), (8, .int (nI (rA (mk w r0) a b))), (9, .int (nI (rA (mk w r0) b a)))] → W p l e R s m args below meth c H1 locs1 0 0 Qq (F0 m 105 ls1 [])) : W p l e R s m args below meth c H locs 0 0 Qq (F0 m 61 ls []) := by
  have hx := C0.1.1
  have hb := C0.1.2.1
  subst hR
  refine lv_iload hx hb dL_isOrder_61 (lv_at hl 5 rfl) ?_
  refine lv_iload hx hb dL_isOrder_63 (lv_at hl 7 rfl) ?_
  refine mr_neN (x := a) (y := b) (tgt := 72) C0 dL_isOrder_65 (by decide) (by omega) (by omega) (fun c65 => absurd c65 (by omega)) (fun c65 => ?_)
  clear c65
  refine lv_iconst (v := nI 0) hx hb dL_isOrder_68 (by decide) ?_
  refine mr_top (y := nI (rA (mk w r0) a b)) (congrArg nI (rA_eq hab).symm) ?_
  refine lv_goto (tgt := 81) hx hb dL_isOrder_69 (by decide) ?_
  refine lv_istore (lv' := [(8, .int (nI (rA (mk w r0) a b))), (0, .ref x), (1, .int (e0)), (2, .int (nI p2)), (3, .int (nI p3)), (4, .int (nI p4)), (5, .int (nI a)), (6, .int (nI f6)), (7, .int (nI b))]) hx hb dL_isOrder_81 hl (by decide) rfl (fun ls hl => ?_)
  refine lv_iload hx hb dL_isOrder_83 (lv_at hl 6 rfl) ?_
  refine lv_iload hx hb dL_isOrder_85 (lv_at hl 8 rfl) ?_
  refine mr_neN (x := a) (y := b) (tgt := 94) C0 dL_isOrder_87 (by decide) (by omega) (by omega) (fun c87 => absurd c87 (by omega)) (fun c87 => ?_)
  clear c87
  refine lv_iconst (v := nI 0) hx hb dL_isOrder_90 (by decide) ?_
  refine mr_top (y := nI (rA (mk w r0) b a)) (congrArg nI (rA_eq hab.symm).symm) ?_
  refine lv_goto (tgt := 103) hx hb dL_isOrder_91 (by decide) ?_
  refine lv_istore (lv' := [(9, .int (nI (rA (mk w r0) b a))), (8, .int (nI (rA (mk w r0) a b))), (0, .ref x), (1, .int (e0)), (2, .int (nI p2)), (3, .int (nI p3)), (4, .int (nI p4)), (5, .int (nI a)), (6, .int (nI f6)), (7, .int (nI b))]) hx hb dL_isOrder_103 hl (by decide) rfl (fun ls hl => ?_)
  exact kk _ _ _ hW hS (lv_sub hl [2, 3, 4, 5, 6, 7, 8, 9, 1, 0] rfl)
set_option maxHeartbeats 4000000 in
set_option maxRecDepth 100000 in
theorem io_1n {p : Program} {l : Launch} {e : Env} {R : Room} {s : State} {m : MethodId} {args : Array Value} {below : List Frame} {meth : Method} {c : Code} {Qq : State → Prop} {D : va_G} {T : Nat → ClassId} {H0 : Heap} {x n t : Nat} {w : Nat → Int32} {P Q : Nat → Nat → Int32} {kp : Nat → Bool} {a b p2 p3 p4 f6 : Nat} {H : Heap} {locs : List Loc} {ls : Array Slot} {e0 : Int32} {r0 : Nat} (C0 : Cx p s m args c cL_isOrder 13 wsL_isOrder RL D T) (hR : R = { frames := 8, cells := 0, slots := 0, locals := 190 }) (hG : Good w t) (hE : EpOk w e0 r0) (ha : a < 8) (hb8 : b < 8) (hab : a ≠ b) (hW : Wo D T x t (n, w, P, Q, kp) H) (hS : va_S (Rg x) H0 H locs) (hl : lv_has ls 13 [(0, .ref x), (1, .int (e0)), (2, .int (nI p2)), (3, .int (nI p3)), (4, .int (nI p4)), (5, .int (nI a)), (6, .int (nI f6)), (7, .int (nI b))])
    (kk : ∀ (H1 : Heap) (locs1 : List Loc) (ls1 : Array Slot), Wo D T x t (n, w, P, Q, kp) H1 → va_S (Rg x) H0 H1 locs1 → lv_has ls1 13 [(0, .ref x), (1, .int (e0)), (2, .int (nI p2)), (3, .int (nI p3)), (4, .int (nI p4)), (5, .int (nI a)), (6, .int (nI f6)), (7, .int (nI b)), (8, .int (nI (rA (mk w r0) a b))), (9, .int (nI (rA (mk w r0) b a)))] → W p l e R s m args below meth c H1 locs1 0 0 Qq (F0 m 105 ls1 [])) : W p l e R s m args below meth c H locs 0 0 Qq (F0 m 61 ls []) := by
  have hx := C0.1.1
  have hb := C0.1.2.1
  subst hR
  refine lv_iload hx hb dL_isOrder_61 (lv_at hl 5 rfl) ?_
  refine lv_iload hx hb dL_isOrder_63 (lv_at hl 7 rfl) ?_
  refine mr_neN (x := a) (y := b) (tgt := 72) C0 dL_isOrder_65 (by decide) (by omega) (by omega) (fun c65 => ?_) (fun c65 => absurd c65 hab)
  clear c65
  refine lv_aload_n hx hb dL_isOrder_72 rfl (lv_at hl 0 rfl) ?_
  refine lv_iload_n hx hb dL_isOrder_73 rfl (lv_at hl 1 rfl) ?_
  refine lv_iload hx hb dL_isOrder_74 (lv_at hl 5 rfl) ?_
  refine lv_iload hx hb dL_isOrder_76 (lv_at hl 7 rfl) ?_
  refine mo_call (x := x) (As := [.int (e0), .int (nI a), .int (nI b)]) (rest := []) (st1 := [.int (nI (relN (mk w r0) a b))]) C0 (op_relation ha hb8 hab hE) hW (fun rm x1 x2 x3 x4 => cwV 3 C0.1.2.2.2.2 gL_isOrder_X3_relation rfl x1 x2 (by decide +kernel) ⟨by show _ ≤ 8; omega, by show _ ≤ 190; omega⟩) hS (fun _ h => h) rfl rfl rfl hl.1 (Nat.le_of_ble_eq_true rfl) dL_isOrder_78 ⟨Nat.le_of_ble_eq_true rfl, Nat.le_of_ble_eq_true rfl⟩ (fun H1 locs1 hW hF hS1 => ?_)
  clear hS
  have hS := hS1
  clear hS1 hF
  refine mr_top (y := nI (rA (mk w r0) a b)) (congrArg nI (rA_ne hab).symm) ?_
  refine lv_istore (lv' := [(8, .int (nI (rA (mk w r0) a b))), (0, .ref x), (1, .int (e0)), (2, .int (nI p2)), (3, .int (nI p3)), (4, .int (nI p4)), (5, .int (nI a)), (6, .int (nI f6)), (7, .int (nI b))]) hx hb dL_isOrder_81 hl (by decide) rfl (fun ls hl => ?_)
  refine lv_iload hx hb dL_isOrder_83 (lv_at hl 6 rfl) ?_
  refine lv_iload hx hb dL_isOrder_85 (lv_at hl 8 rfl) ?_
  refine mr_neN (x := a) (y := b) (tgt := 94) C0 dL_isOrder_87 (by decide) (by omega) (by omega) (fun c87 => ?_) (fun c87 => absurd c87 hab)
  clear c87
  refine lv_aload_n hx hb dL_isOrder_94 rfl (lv_at hl 1 rfl) ?_
  refine lv_iload_n hx hb dL_isOrder_95 rfl (lv_at hl 2 rfl) ?_
  refine lv_iload hx hb dL_isOrder_96 (lv_at hl 8 rfl) ?_
  refine lv_iload hx hb dL_isOrder_98 (lv_at hl 6 rfl) ?_
  refine mo_call (x := x) (As := [.int (e0), .int (nI b), .int (nI a)]) (rest := []) (st1 := [.int (nI (relN (mk w r0) b a))]) C0 (op_relation hb8 ha (fun z => hab z.symm) hE) hW (fun rm x1 x2 x3 x4 => cwV 3 C0.1.2.2.2.2 gL_isOrder_X3_relation rfl x1 x2 (by decide +kernel) ⟨by show _ ≤ 8; omega, by show _ ≤ 190; omega⟩) hS (fun _ h => h) rfl rfl rfl hl.1 (Nat.le_of_ble_eq_true rfl) dL_isOrder_100 ⟨Nat.le_of_ble_eq_true rfl, Nat.le_of_ble_eq_true rfl⟩ (fun H1 locs1 hW hF hS1 => ?_)
  clear hS
  have hS := hS1
  clear hS1 hF
  refine mr_top (y := nI (rA (mk w r0) b a)) (congrArg nI (rA_ne (fun z => hab z.symm)).symm) ?_
  refine lv_istore (lv' := [(9, .int (nI (rA (mk w r0) b a))), (8, .int (nI (rA (mk w r0) a b))), (0, .ref x), (1, .int (e0)), (2, .int (nI p2)), (3, .int (nI p3)), (4, .int (nI p4)), (5, .int (nI a)), (6, .int (nI f6)), (7, .int (nI b))]) hx hb dL_isOrder_103 hl (by decide) rfl (fun ls hl => ?_)
  exact kk _ _ _ hW hS (lv_sub hl [2, 3, 4, 5, 6, 7, 8, 9, 1, 0] rfl)
set_option maxHeartbeats 4000000 in
set_option maxRecDepth 100000 in
theorem io_2e {p : Program} {l : Launch} {e : Env} {R : Room} {s : State} {m : MethodId} {args : Array Value} {below : List Frame} {meth : Method} {c : Code} {Qq : State → Prop} {D : va_G} {T : Nat → ClassId} {H0 : Heap} {x n t : Nat} {w : Nat → Int32} {P Q : Nat → Nat → Int32} {kp : Nat → Bool} {a b p2 p3 p4 f6 ia ib : Nat} {H : Heap} {locs : List Loc} {ls : Array Slot} {e0 : Int32} {r0 : Nat} (C0 : Cx p s m args c cL_isOrder 13 wsL_isOrder RL D T) (hR : R = { frames := 8, cells := 0, slots := 0, locals := 190 }) (hG : Good w t) (hE : EpOk w e0 r0) (ha : a < 8) (hb8 : b < 8) (hia : ia ≤ 4) (hib : ib ≤ 4) (hab : a = b) (hW : Wo D T x t (n, w, P, Q, kp) H) (hS : va_S (Rg x) H0 H locs) (hl : lv_has ls 13 [(0, .ref x), (1, .int (e0)), (2, .int (nI p2)), (3, .int (nI p3)), (4, .int (nI p4)), (5, .int (nI a)), (6, .int (nI f6)), (7, .int (nI b)), (8, .int (nI ia)), (9, .int (nI ib))])
    (kk : ∀ (H1 : Heap) (locs1 : List Loc) (ls1 : Array Slot), Wo D T x t (n, w, P, Q, kp) H1 → va_S (Rg x) H0 H1 locs1 → lv_has ls1 13 [(0, .ref x), (1, .int (e0)), (2, .int (nI p2)), (3, .int (nI p3)), (4, .int (nI p4)), (5, .int (nI a)), (6, .int (nI f6)), (7, .int (nI b)), (8, .int (nI ia)), (9, .int (nI ib))] → W p l e R s m args below meth c H1 locs1 0 0 Qq (F0 m 154 ls1 [])) : W p l e R s m args below meth c H locs 0 0 Qq (F0 m 105 ls []) := by
  have hx := C0.1.1
  have hb := C0.1.2.1
  subst hR
  refine lv_iload hx hb dL_isOrder_105 (lv_at hl 5 rfl) ?_
  refine lv_iload hx hb dL_isOrder_107 (lv_at hl 7 rfl) ?_
  refine mr_eqN (x := a) (y := b) (tgt := 154) C0 dL_isOrder_109 (by decide) (by omega) (by omega) (fun c109 => ?_) (fun c109 => absurd hab c109)
  clear c109
  exact kk _ _ _ hW hS (lv_sub hl [0, 1, 2, 3, 4, 5, 6, 7, 8, 9] rfl)
set_option maxHeartbeats 4000000 in
set_option maxRecDepth 100000 in
theorem io_2z {p : Program} {l : Launch} {e : Env} {R : Room} {s : State} {m : MethodId} {args : Array Value} {below : List Frame} {meth : Method} {c : Code} {Qq : State → Prop} {D : va_G} {T : Nat → ClassId} {H0 : Heap} {x n t : Nat} {w : Nat → Int32} {P Q : Nat → Nat → Int32} {kp : Nat → Bool} {a b p2 p3 p4 f6 ia ib : Nat} {H : Heap} {locs : List Loc} {ls : Array Slot} {e0 : Int32} {r0 : Nat} (C0 : Cx p s m args c cL_isOrder 13 wsL_isOrder RL D T) (hR : R = { frames := 8, cells := 0, slots := 0, locals := 190 }) (hG : Good w t) (hE : EpOk w e0 r0) (ha : a < 8) (hb8 : b < 8) (hia : ia ≤ 4) (hib : ib ≤ 4) (hab : a ≠ b) (h1 : ia = 0) (h2 : ib = 0) (hW : Wo D T x t (n, w, P, Q, kp) H) (hS : va_S (Rg x) H0 H locs) (hl : lv_has ls 13 [(0, .ref x), (1, .int (e0)), (2, .int (nI p2)), (3, .int (nI p3)), (4, .int (nI p4)), (5, .int (nI a)), (6, .int (nI f6)), (7, .int (nI b)), (8, .int (nI ia)), (9, .int (nI ib))])
    (kk : ∀ (H1 : Heap) (locs1 : List Loc) (ls1 : Array Slot), Wo D T x t (n, w, P, Q, kp) H1 → va_S (Rg x) H0 H1 locs1 → lv_has ls1 13 [(0, .ref x), (1, .int (e0)), (2, .int (nI p2)), (3, .int (nI p3)), (4, .int (nI p4)), (5, .int (nI a)), (6, .int (nI f6)), (7, .int (nI b)), (8, .int (nI ia)), (9, .int (nI ib))] → W p l e R s m args below meth c H1 locs1 0 0 Qq (F0 m 154 ls1 [])) : W p l e R s m args below meth c H locs 0 0 Qq (F0 m 105 ls []) := by
  have hx := C0.1.1
  have hb := C0.1.2.1
  subst hR
  refine lv_iload hx hb dL_isOrder_105 (lv_at hl 5 rfl) ?_
  refine lv_iload hx hb dL_isOrder_107 (lv_at hl 7 rfl) ?_
  refine mr_eqN (x := a) (y := b) (tgt := 154) C0 dL_isOrder_109 (by decide) (by omega) (by omega) (fun c109 => absurd c109 hab) (fun c109 => ?_)
  clear c109
  refine lv_iload hx hb dL_isOrder_112 (lv_at hl 8 rfl) ?_
  refine mr_ne0N (x := ia) (tgt := 125) C0 dL_isOrder_114 (by decide) (by omega) (fun c114 => absurd c114 (by omega)) (fun c114 => ?_)
  clear c114
  refine lv_iload hx hb dL_isOrder_117 (lv_at hl 9 rfl) ?_
  refine mr_eq0N (x := ib) (tgt := 154) C0 dL_isOrder_119 (by decide) (by omega) (fun c119 => ?_) (fun c119 => absurd c119 (by omega))
  clear c119
  exact kk _ _ _ hW hS (lv_sub hl [0, 1, 2, 3, 4, 5, 6, 7, 8, 9] rfl)
set_option maxHeartbeats 4000000 in
set_option maxRecDepth 100000 in
theorem io_2p {p : Program} {l : Launch} {e : Env} {R : Room} {s : State} {m : MethodId} {args : Array Value} {below : List Frame} {meth : Method} {c : Code} {Qq : State → Prop} {D : va_G} {T : Nat → ClassId} {H0 : Heap} {x n t : Nat} {w : Nat → Int32} {P Q : Nat → Nat → Int32} {kp : Nat → Bool} {a b p2 p3 p4 f6 ia ib : Nat} {H : Heap} {locs : List Loc} {ls : Array Slot} {e0 : Int32} {r0 : Nat} (C0 : Cx p s m args c cL_isOrder 13 wsL_isOrder RL D T) (hR : R = { frames := 8, cells := 0, slots := 0, locals := 190 }) (hG : Good w t) (hE : EpOk w e0 r0) (ha : a < 8) (hb8 : b < 8) (hia : ia ≤ 4) (hib : ib ≤ 4) (hab : a ≠ b) (h1 : 0 < ia ∧ ia < 3) (h2 : ib = ia + 2) (hW : Wo D T x t (n, w, P, Q, kp) H) (hS : va_S (Rg x) H0 H locs) (hl : lv_has ls 13 [(0, .ref x), (1, .int (e0)), (2, .int (nI p2)), (3, .int (nI p3)), (4, .int (nI p4)), (5, .int (nI a)), (6, .int (nI f6)), (7, .int (nI b)), (8, .int (nI ia)), (9, .int (nI ib))])
    (kk : ∀ (H1 : Heap) (locs1 : List Loc) (ls1 : Array Slot), Wo D T x t (n, w, P, Q, kp) H1 → va_S (Rg x) H0 H1 locs1 → lv_has ls1 13 [(0, .ref x), (1, .int (e0)), (2, .int (nI p2)), (3, .int (nI p3)), (4, .int (nI p4)), (5, .int (nI a)), (6, .int (nI f6)), (7, .int (nI b)), (8, .int (nI ia)), (9, .int (nI ib))] → W p l e R s m args below meth c H1 locs1 0 0 Qq (F0 m 154 ls1 [])) : W p l e R s m args below meth c H locs 0 0 Qq (F0 m 105 ls []) := by
  have hx := C0.1.1
  have hb := C0.1.2.1
  subst hR
  refine lv_iload hx hb dL_isOrder_105 (lv_at hl 5 rfl) ?_
  refine lv_iload hx hb dL_isOrder_107 (lv_at hl 7 rfl) ?_
  refine mr_eqN (x := a) (y := b) (tgt := 154) C0 dL_isOrder_109 (by decide) (by omega) (by omega) (fun c109 => absurd c109 hab) (fun c109 => ?_)
  clear c109
  refine lv_iload hx hb dL_isOrder_112 (lv_at hl 8 rfl) ?_
  refine mr_ne0N (x := ia) (tgt := 125) C0 dL_isOrder_114 (by decide) (by omega) (fun c114 => ?_) (fun c114 => absurd c114 (by omega))
  clear c114
  refine lv_iload hx hb dL_isOrder_125 (lv_at hl 8 rfl) ?_
  refine lv_iconst (v := nI 3) hx hb dL_isOrder_127 (by decide) ?_
  refine mr_geN (x := ia) (y := 3) (tgt := 143) C0 dL_isOrder_128 (by decide) (by omega) (by omega) (fun c128 => absurd c128 (by omega)) (fun c128 => ?_)
  clear c128
  refine lv_iload hx hb dL_isOrder_131 (lv_at hl 9 rfl) ?_
  refine lv_iload hx hb dL_isOrder_133 (lv_at hl 8 rfl) ?_
  refine lv_iconst (v := nI 2) hx hb dL_isOrder_135 (by decide) ?_
  refine mr_iaddN (z := ia + 2) C0 (rfl) dL_isOrder_136 ?_
  refine mr_eqN (x := ib) (y := ia + 2) (tgt := 154) C0 dL_isOrder_137 (by decide) (by omega) (by omega) (fun c137 => ?_) (fun c137 => absurd h2 c137)
  clear c137
  exact kk _ _ _ hW hS (lv_sub hl [0, 1, 2, 3, 4, 5, 6, 7, 8, 9] rfl)
set_option maxHeartbeats 4000000 in
set_option maxRecDepth 100000 in
theorem io_2q {p : Program} {l : Launch} {e : Env} {R : Room} {s : State} {m : MethodId} {args : Array Value} {below : List Frame} {meth : Method} {c : Code} {Qq : State → Prop} {D : va_G} {T : Nat → ClassId} {H0 : Heap} {x n t : Nat} {w : Nat → Int32} {P Q : Nat → Nat → Int32} {kp : Nat → Bool} {a b p2 p3 p4 f6 ia ib : Nat} {H : Heap} {locs : List Loc} {ls : Array Slot} {e0 : Int32} {r0 : Nat} (C0 : Cx p s m args c cL_isOrder 13 wsL_isOrder RL D T) (hR : R = { frames := 8, cells := 0, slots := 0, locals := 190 }) (hG : Good w t) (hE : EpOk w e0 r0) (ha : a < 8) (hb8 : b < 8) (hia : ia ≤ 4) (hib : ib ≤ 4) (hab : a ≠ b) (h1 : 3 ≤ ia) (h2 : ia = ib + 2) (hW : Wo D T x t (n, w, P, Q, kp) H) (hS : va_S (Rg x) H0 H locs) (hl : lv_has ls 13 [(0, .ref x), (1, .int (e0)), (2, .int (nI p2)), (3, .int (nI p3)), (4, .int (nI p4)), (5, .int (nI a)), (6, .int (nI f6)), (7, .int (nI b)), (8, .int (nI ia)), (9, .int (nI ib))])
    (kk : ∀ (H1 : Heap) (locs1 : List Loc) (ls1 : Array Slot), Wo D T x t (n, w, P, Q, kp) H1 → va_S (Rg x) H0 H1 locs1 → lv_has ls1 13 [(0, .ref x), (1, .int (e0)), (2, .int (nI p2)), (3, .int (nI p3)), (4, .int (nI p4)), (5, .int (nI a)), (6, .int (nI f6)), (7, .int (nI b)), (8, .int (nI ia)), (9, .int (nI ib))] → W p l e R s m args below meth c H1 locs1 0 0 Qq (F0 m 154 ls1 [])) : W p l e R s m args below meth c H locs 0 0 Qq (F0 m 105 ls []) := by
  have hx := C0.1.1
  have hb := C0.1.2.1
  subst hR
  refine lv_iload hx hb dL_isOrder_105 (lv_at hl 5 rfl) ?_
  refine lv_iload hx hb dL_isOrder_107 (lv_at hl 7 rfl) ?_
  refine mr_eqN (x := a) (y := b) (tgt := 154) C0 dL_isOrder_109 (by decide) (by omega) (by omega) (fun c109 => absurd c109 hab) (fun c109 => ?_)
  clear c109
  refine lv_iload hx hb dL_isOrder_112 (lv_at hl 8 rfl) ?_
  refine mr_ne0N (x := ia) (tgt := 125) C0 dL_isOrder_114 (by decide) (by omega) (fun c114 => ?_) (fun c114 => absurd c114 (by omega))
  clear c114
  refine lv_iload hx hb dL_isOrder_125 (lv_at hl 8 rfl) ?_
  refine lv_iconst (v := nI 3) hx hb dL_isOrder_127 (by decide) ?_
  refine mr_geN (x := ia) (y := 3) (tgt := 143) C0 dL_isOrder_128 (by decide) (by omega) (by omega) (fun c128 => ?_) (fun c128 => absurd c128 (by omega))
  clear c128
  refine lv_iload hx hb dL_isOrder_143 (lv_at hl 9 rfl) ?_
  refine lv_iload hx hb dL_isOrder_145 (lv_at hl 8 rfl) ?_
  refine lv_iconst (v := nI 2) hx hb dL_isOrder_147 (by decide) ?_
  refine mr_isubN (z := ib) C0 (h2) dL_isOrder_148 ?_
  refine lv_icmp_eq (tgt := 154) hx hb dL_isOrder_149 (by decide) (fun c149 => ?_) (fun c149 => absurd rfl c149)
  clear c149
  exact kk _ _ _ hW hS (lv_sub hl [0, 1, 2, 3, 4, 5, 6, 7, 8, 9] rfl)
set_option maxHeartbeats 4000000 in
set_option maxRecDepth 100000 in
theorem io_3y {p : Program} {l : Launch} {e : Env} {R : Room} {s : State} {m : MethodId} {args : Array Value} {below : List Frame} {meth : Method} {c : Code} {Qq : State → Prop} {D : va_G} {T : Nat → ClassId} {H0 : Heap} {x n t : Nat} {w : Nat → Int32} {P Q : Nat → Nat → Int32} {kp : Nat → Bool} {a b p2 p3 p4 f6 ia ib : Nat} {H : Heap} {locs : List Loc} {ls : Array Slot} {e0 : Int32} {r0 : Nat} (C0 : Cx p s m args c cL_isOrder 13 wsL_isOrder RL D T) (hR : R = { frames := 8, cells := 0, slots := 0, locals := 190 }) (hG : Good w t) (hE : EpOk w e0 r0) (ha : a < 8) (hb8 : b < 8) (hia : ia ≤ 4) (hib : ib ≤ 4) (h1 : w a = nI 1) (h2 : w b = nI 1) (hW : Wo D T x t (n, w, P, Q, kp) H) (hS : va_S (Rg x) H0 H locs) (hl : lv_has ls 13 [(0, .ref x), (1, .int (e0)), (2, .int (nI p2)), (3, .int (nI p3)), (4, .int (nI p4)), (5, .int (nI a)), (6, .int (nI f6)), (7, .int (nI b)), (8, .int (nI ia)), (9, .int (nI ib))])
    (kk : ∀ (H1 : Heap) (locs1 : List Loc) (ls1 : Array Slot), Wo D T x t (n, w, P, Q, kp) H1 → va_S (Rg x) H0 H1 locs1 → lv_has ls1 13 [(0, .ref x), (1, .int (e0)), (2, .int (nI p2)), (3, .int (nI p3)), (4, .int (nI p4)), (5, .int (nI a)), (6, .int (nI f6)), (7, .int (nI b)), (8, .int (nI ia)), (9, .int (nI ib)), (10, .int (nI (boN w a b)))] → W p l e R s m args below meth c H1 locs1 0 0 Qq (F0 m 183 ls1 [])) : W p l e R s m args below meth c H locs 0 0 Qq (F0 m 154 ls []) := by
  have hx := C0.1.1
  have hb := C0.1.2.1
  subst hR
  refine lv_aload_n hx hb dL_isOrder_154 rfl (lv_at hl 0 rfl) ?_
  refine lv_iload hx hb dL_isOrder_155 (lv_at hl 5 rfl) ?_
  refine lv_iconst (v := nI 0) hx hb dL_isOrder_157 (by decide) ?_
  refine mo_call (x := x) (As := [.int (nI a), .int (nI 0)]) (rest := []) (st1 := [.int (fStrm w t a 0)]) C0 (op_stream ha (by decide)) hW (fun rm x1 x2 x3 x4 => cwV 2 C0.1.2.2.2.2 gL_isOrder_X3_stream rfl x1 x2 (by decide +kernel) ⟨by show _ ≤ 8; omega, by show _ ≤ 190; omega⟩) hS (fun _ h => h) rfl rfl rfl hl.1 (Nat.le_of_ble_eq_true rfl) dL_isOrder_158 ⟨Nat.le_of_ble_eq_true rfl, Nat.le_of_ble_eq_true rfl⟩ (fun H1 locs1 hW hF hS1 => ?_)
  clear hS
  have hS := hS1
  clear hS1 hF
  refine mr_top (y := nI 1) ((fStrm_0 w t a).trans (h1)) ?_
  refine lv_iconst (v := nI 1) hx hb dL_isOrder_161 (by decide) ?_
  refine lv_icmp_ne (tgt := 180) hx hb dL_isOrder_162 (by decide) (fun c162 => absurd rfl c162) (fun c162 => ?_)
  clear c162
  refine lv_aload_n hx hb dL_isOrder_165 rfl (lv_at hl 0 rfl) ?_
  refine lv_iload hx hb dL_isOrder_166 (lv_at hl 7 rfl) ?_
  refine lv_iconst (v := nI 0) hx hb dL_isOrder_168 (by decide) ?_
  refine mo_call (x := x) (As := [.int (nI b), .int (nI 0)]) (rest := []) (st1 := [.int (fStrm w t b 0)]) C0 (op_stream hb8 (by decide)) hW (fun rm x1 x2 x3 x4 => cwV 2 C0.1.2.2.2.2 gL_isOrder_X3_stream rfl x1 x2 (by decide +kernel) ⟨by show _ ≤ 8; omega, by show _ ≤ 190; omega⟩) hS (fun _ h => h) rfl rfl rfl hl.1 (Nat.le_of_ble_eq_true rfl) dL_isOrder_169 ⟨Nat.le_of_ble_eq_true rfl, Nat.le_of_ble_eq_true rfl⟩ (fun H1 locs1 hW hF hS1 => ?_)
  clear hS
  have hS := hS1
  clear hS1 hF
  refine mr_top (y := nI 1) ((fStrm_0 w t b).trans (h2)) ?_
  refine lv_iconst (v := nI 1) hx hb dL_isOrder_172 (by decide) ?_
  refine lv_icmp_ne (tgt := 180) hx hb dL_isOrder_173 (by decide) (fun c173 => absurd rfl c173) (fun c173 => ?_)
  clear c173
  refine lv_iconst (v := nI 1) hx hb dL_isOrder_176 (by decide) ?_
  refine mr_top (y := nI (boN w a b)) (congrArg nI (if_pos ⟨h1, h2⟩).symm) ?_
  refine lv_goto (tgt := 181) hx hb dL_isOrder_177 (by decide) ?_
  refine lv_istore (lv' := [(10, .int (nI (boN w a b))), (0, .ref x), (1, .int (e0)), (2, .int (nI p2)), (3, .int (nI p3)), (4, .int (nI p4)), (5, .int (nI a)), (6, .int (nI f6)), (7, .int (nI b)), (8, .int (nI ia)), (9, .int (nI ib))]) hx hb dL_isOrder_181 hl (by decide) rfl (fun ls hl => ?_)
  exact kk _ _ _ hW hS (lv_sub hl [1, 2, 3, 4, 5, 6, 7, 8, 9, 10, 0] rfl)
set_option maxHeartbeats 4000000 in
set_option maxRecDepth 100000 in
theorem io_3b {p : Program} {l : Launch} {e : Env} {R : Room} {s : State} {m : MethodId} {args : Array Value} {below : List Frame} {meth : Method} {c : Code} {Qq : State → Prop} {D : va_G} {T : Nat → ClassId} {H0 : Heap} {x n t : Nat} {w : Nat → Int32} {P Q : Nat → Nat → Int32} {kp : Nat → Bool} {a b p2 p3 p4 f6 ia ib : Nat} {H : Heap} {locs : List Loc} {ls : Array Slot} {e0 : Int32} {r0 : Nat} (C0 : Cx p s m args c cL_isOrder 13 wsL_isOrder RL D T) (hR : R = { frames := 8, cells := 0, slots := 0, locals := 190 }) (hG : Good w t) (hE : EpOk w e0 r0) (ha : a < 8) (hb8 : b < 8) (hia : ia ≤ 4) (hib : ib ≤ 4) (h1 : w a = nI 1) (h2 : ¬ w b = nI 1) (hW : Wo D T x t (n, w, P, Q, kp) H) (hS : va_S (Rg x) H0 H locs) (hl : lv_has ls 13 [(0, .ref x), (1, .int (e0)), (2, .int (nI p2)), (3, .int (nI p3)), (4, .int (nI p4)), (5, .int (nI a)), (6, .int (nI f6)), (7, .int (nI b)), (8, .int (nI ia)), (9, .int (nI ib))])
    (kk : ∀ (H1 : Heap) (locs1 : List Loc) (ls1 : Array Slot), Wo D T x t (n, w, P, Q, kp) H1 → va_S (Rg x) H0 H1 locs1 → lv_has ls1 13 [(0, .ref x), (1, .int (e0)), (2, .int (nI p2)), (3, .int (nI p3)), (4, .int (nI p4)), (5, .int (nI a)), (6, .int (nI f6)), (7, .int (nI b)), (8, .int (nI ia)), (9, .int (nI ib)), (10, .int (nI (boN w a b)))] → W p l e R s m args below meth c H1 locs1 0 0 Qq (F0 m 183 ls1 [])) : W p l e R s m args below meth c H locs 0 0 Qq (F0 m 154 ls []) := by
  have hx := C0.1.1
  have hb := C0.1.2.1
  subst hR
  refine lv_aload_n hx hb dL_isOrder_154 rfl (lv_at hl 0 rfl) ?_
  refine lv_iload hx hb dL_isOrder_155 (lv_at hl 5 rfl) ?_
  refine lv_iconst (v := nI 0) hx hb dL_isOrder_157 (by decide) ?_
  refine mo_call (x := x) (As := [.int (nI a), .int (nI 0)]) (rest := []) (st1 := [.int (fStrm w t a 0)]) C0 (op_stream ha (by decide)) hW (fun rm x1 x2 x3 x4 => cwV 2 C0.1.2.2.2.2 gL_isOrder_X3_stream rfl x1 x2 (by decide +kernel) ⟨by show _ ≤ 8; omega, by show _ ≤ 190; omega⟩) hS (fun _ h => h) rfl rfl rfl hl.1 (Nat.le_of_ble_eq_true rfl) dL_isOrder_158 ⟨Nat.le_of_ble_eq_true rfl, Nat.le_of_ble_eq_true rfl⟩ (fun H1 locs1 hW hF hS1 => ?_)
  clear hS
  have hS := hS1
  clear hS1 hF
  refine mr_top (y := nI 1) ((fStrm_0 w t a).trans (h1)) ?_
  refine lv_iconst (v := nI 1) hx hb dL_isOrder_161 (by decide) ?_
  refine lv_icmp_ne (tgt := 180) hx hb dL_isOrder_162 (by decide) (fun c162 => absurd rfl c162) (fun c162 => ?_)
  clear c162
  refine lv_aload_n hx hb dL_isOrder_165 rfl (lv_at hl 0 rfl) ?_
  refine lv_iload hx hb dL_isOrder_166 (lv_at hl 7 rfl) ?_
  refine lv_iconst (v := nI 0) hx hb dL_isOrder_168 (by decide) ?_
  refine mo_call (x := x) (As := [.int (nI b), .int (nI 0)]) (rest := []) (st1 := [.int (fStrm w t b 0)]) C0 (op_stream hb8 (by decide)) hW (fun rm x1 x2 x3 x4 => cwV 2 C0.1.2.2.2.2 gL_isOrder_X3_stream rfl x1 x2 (by decide +kernel) ⟨by show _ ≤ 8; omega, by show _ ≤ 190; omega⟩) hS (fun _ h => h) rfl rfl rfl hl.1 (Nat.le_of_ble_eq_true rfl) dL_isOrder_169 ⟨Nat.le_of_ble_eq_true rfl, Nat.le_of_ble_eq_true rfl⟩ (fun H1 locs1 hW hF hS1 => ?_)
  clear hS
  have hS := hS1
  clear hS1 hF
  refine mr_top (y := nI 0) ((fStrm_0 w t b).trans (opn_01 hG hb8 h2)) ?_
  refine lv_iconst (v := nI 1) hx hb dL_isOrder_172 (by decide) ?_
  refine lv_icmp_ne (tgt := 180) hx hb dL_isOrder_173 (by decide) (fun c173 => ?_) (fun c173 => absurd c173 (by decide))
  clear c173
  refine lv_iconst (v := nI 0) hx hb dL_isOrder_180 (by decide) ?_
  refine mr_top (y := nI (boN w a b)) (congrArg nI (if_neg (fun z => h2 z.2)).symm) ?_
  refine lv_istore (lv' := [(10, .int (nI (boN w a b))), (0, .ref x), (1, .int (e0)), (2, .int (nI p2)), (3, .int (nI p3)), (4, .int (nI p4)), (5, .int (nI a)), (6, .int (nI f6)), (7, .int (nI b)), (8, .int (nI ia)), (9, .int (nI ib))]) hx hb dL_isOrder_181 hl (by decide) rfl (fun ls hl => ?_)
  exact kk _ _ _ hW hS (lv_sub hl [1, 2, 3, 4, 5, 6, 7, 8, 9, 10, 0] rfl)
set_option maxHeartbeats 4000000 in
set_option maxRecDepth 100000 in
theorem io_3a {p : Program} {l : Launch} {e : Env} {R : Room} {s : State} {m : MethodId} {args : Array Value} {below : List Frame} {meth : Method} {c : Code} {Qq : State → Prop} {D : va_G} {T : Nat → ClassId} {H0 : Heap} {x n t : Nat} {w : Nat → Int32} {P Q : Nat → Nat → Int32} {kp : Nat → Bool} {a b p2 p3 p4 f6 ia ib : Nat} {H : Heap} {locs : List Loc} {ls : Array Slot} {e0 : Int32} {r0 : Nat} (C0 : Cx p s m args c cL_isOrder 13 wsL_isOrder RL D T) (hR : R = { frames := 8, cells := 0, slots := 0, locals := 190 }) (hG : Good w t) (hE : EpOk w e0 r0) (ha : a < 8) (hb8 : b < 8) (hia : ia ≤ 4) (hib : ib ≤ 4) (h1 : ¬ w a = nI 1) (hW : Wo D T x t (n, w, P, Q, kp) H) (hS : va_S (Rg x) H0 H locs) (hl : lv_has ls 13 [(0, .ref x), (1, .int (e0)), (2, .int (nI p2)), (3, .int (nI p3)), (4, .int (nI p4)), (5, .int (nI a)), (6, .int (nI f6)), (7, .int (nI b)), (8, .int (nI ia)), (9, .int (nI ib))])
    (kk : ∀ (H1 : Heap) (locs1 : List Loc) (ls1 : Array Slot), Wo D T x t (n, w, P, Q, kp) H1 → va_S (Rg x) H0 H1 locs1 → lv_has ls1 13 [(0, .ref x), (1, .int (e0)), (2, .int (nI p2)), (3, .int (nI p3)), (4, .int (nI p4)), (5, .int (nI a)), (6, .int (nI f6)), (7, .int (nI b)), (8, .int (nI ia)), (9, .int (nI ib)), (10, .int (nI (boN w a b)))] → W p l e R s m args below meth c H1 locs1 0 0 Qq (F0 m 183 ls1 [])) : W p l e R s m args below meth c H locs 0 0 Qq (F0 m 154 ls []) := by
  have hx := C0.1.1
  have hb := C0.1.2.1
  subst hR
  refine lv_aload_n hx hb dL_isOrder_154 rfl (lv_at hl 0 rfl) ?_
  refine lv_iload hx hb dL_isOrder_155 (lv_at hl 5 rfl) ?_
  refine lv_iconst (v := nI 0) hx hb dL_isOrder_157 (by decide) ?_
  refine mo_call (x := x) (As := [.int (nI a), .int (nI 0)]) (rest := []) (st1 := [.int (fStrm w t a 0)]) C0 (op_stream ha (by decide)) hW (fun rm x1 x2 x3 x4 => cwV 2 C0.1.2.2.2.2 gL_isOrder_X3_stream rfl x1 x2 (by decide +kernel) ⟨by show _ ≤ 8; omega, by show _ ≤ 190; omega⟩) hS (fun _ h => h) rfl rfl rfl hl.1 (Nat.le_of_ble_eq_true rfl) dL_isOrder_158 ⟨Nat.le_of_ble_eq_true rfl, Nat.le_of_ble_eq_true rfl⟩ (fun H1 locs1 hW hF hS1 => ?_)
  clear hS
  have hS := hS1
  clear hS1 hF
  refine mr_top (y := nI 0) ((fStrm_0 w t a).trans (opn_01 hG ha h1)) ?_
  refine lv_iconst (v := nI 1) hx hb dL_isOrder_161 (by decide) ?_
  refine lv_icmp_ne (tgt := 180) hx hb dL_isOrder_162 (by decide) (fun c162 => ?_) (fun c162 => absurd c162 (by decide))
  clear c162
  refine lv_iconst (v := nI 0) hx hb dL_isOrder_180 (by decide) ?_
  refine mr_top (y := nI (boN w a b)) (congrArg nI (if_neg (fun z => h1 z.1)).symm) ?_
  refine lv_istore (lv' := [(10, .int (nI (boN w a b))), (0, .ref x), (1, .int (e0)), (2, .int (nI p2)), (3, .int (nI p3)), (4, .int (nI p4)), (5, .int (nI a)), (6, .int (nI f6)), (7, .int (nI b)), (8, .int (nI ia)), (9, .int (nI ib))]) hx hb dL_isOrder_181 hl (by decide) rfl (fun ls hl => ?_)
  exact kk _ _ _ hW hS (lv_sub hl [1, 2, 3, 4, 5, 6, 7, 8, 9, 10, 0] rfl)
set_option maxHeartbeats 4000000 in
set_option maxRecDepth 100000 in
theorem io_4n {p : Program} {l : Launch} {e : Env} {R : Room} {s : State} {m : MethodId} {args : Array Value} {below : List Frame} {meth : Method} {c : Code} {Qq : State → Prop} {D : va_G} {T : Nat → ClassId} {H0 : Heap} {x n t : Nat} {w : Nat → Int32} {P Q : Nat → Nat → Int32} {kp : Nat → Bool} {a b p2 p3 p4 f6 ia ib bo q2 : Nat} {H : Heap} {locs : List Loc} {ls : Array Slot} {e0 : Int32} {r0 : Nat} (C0 : Cx p s m args c cL_isOrder 13 wsL_isOrder RL D T) (hR : R = { frames := 8, cells := 0, slots := 0, locals := 190 }) (hG : Good w t) (hE : EpOk w e0 r0) (ha : a < 8) (hb8 : b < 8) (hia : ia ≤ 4) (hib : ib ≤ 4) (hbo : bo ≤ 1) (h1 : bo = 0) (hq : p2 = q2) (hW : Wo D T x t (n, w, P, Q, kp) H) (hS : va_S (Rg x) H0 H locs) (hl : lv_has ls 13 [(0, .ref x), (1, .int (e0)), (2, .int (nI p2)), (3, .int (nI p3)), (4, .int (nI p4)), (5, .int (nI a)), (6, .int (nI f6)), (7, .int (nI b)), (8, .int (nI ia)), (9, .int (nI ib)), (10, .int (nI bo))])
    (kk : ∀ (H1 : Heap) (locs1 : List Loc) (ls1 : Array Slot), Wo D T x t (n, w, P, Q, kp) H1 → va_S (Rg x) H0 H1 locs1 → lv_has ls1 13 [(0, .ref x), (1, .int (e0)), (2, .int (nI q2)), (3, .int (nI p3)), (4, .int (nI p4)), (5, .int (nI a)), (6, .int (nI f6)), (7, .int (nI b)), (8, .int (nI ia)), (9, .int (nI ib)), (10, .int (nI bo))] → W p l e R s m args below meth c H1 locs1 0 0 Qq (F0 m 207 ls1 [])) : W p l e R s m args below meth c H locs 0 0 Qq (F0 m 183 ls []) := by
  have hx := C0.1.1
  have hb := C0.1.2.1
  subst hR
  refine lv_iload hx hb dL_isOrder_183 (lv_at hl 10 rfl) ?_
  refine mr_eq0N (x := bo) (tgt := 205) C0 dL_isOrder_185 (by decide) (by omega) (fun c185 => ?_) (fun c185 => absurd c185 (by omega))
  clear c185
  refine lv_iload_n hx hb dL_isOrder_205 rfl (lv_at hl 2 rfl) ?_
  refine mr_top (y := nI q2) (congrArg nI hq) ?_
  refine lv_istore_n (lv' := [(2, .int (nI q2)), (0, .ref x), (1, .int (e0)), (3, .int (nI p3)), (4, .int (nI p4)), (5, .int (nI a)), (6, .int (nI f6)), (7, .int (nI b)), (8, .int (nI ia)), (9, .int (nI ib)), (10, .int (nI bo))]) hx hb dL_isOrder_206 rfl hl (by decide) rfl (fun ls hl => ?_)
  exact kk _ _ _ hW hS (lv_sub hl [1, 2, 0, 3, 4, 5, 6, 7, 8, 9, 10] rfl)
set_option maxHeartbeats 4000000 in
set_option maxRecDepth 100000 in
theorem io_4z {p : Program} {l : Launch} {e : Env} {R : Room} {s : State} {m : MethodId} {args : Array Value} {below : List Frame} {meth : Method} {c : Code} {Qq : State → Prop} {D : va_G} {T : Nat → ClassId} {H0 : Heap} {x n t : Nat} {w : Nat → Int32} {P Q : Nat → Nat → Int32} {kp : Nat → Bool} {a b p2 p3 p4 f6 ia ib bo q2 : Nat} {H : Heap} {locs : List Loc} {ls : Array Slot} {e0 : Int32} {r0 : Nat} (C0 : Cx p s m args c cL_isOrder 13 wsL_isOrder RL D T) (hR : R = { frames := 8, cells := 0, slots := 0, locals := 190 }) (hG : Good w t) (hE : EpOk w e0 r0) (ha : a < 8) (hb8 : b < 8) (hia : ia ≤ 4) (hib : ib ≤ 4) (hbo : bo ≤ 1) (h1 : bo = 1) (h2 : ia = 0) (hq : p2 = q2) (hW : Wo D T x t (n, w, P, Q, kp) H) (hS : va_S (Rg x) H0 H locs) (hl : lv_has ls 13 [(0, .ref x), (1, .int (e0)), (2, .int (nI p2)), (3, .int (nI p3)), (4, .int (nI p4)), (5, .int (nI a)), (6, .int (nI f6)), (7, .int (nI b)), (8, .int (nI ia)), (9, .int (nI ib)), (10, .int (nI bo))])
    (kk : ∀ (H1 : Heap) (locs1 : List Loc) (ls1 : Array Slot), Wo D T x t (n, w, P, Q, kp) H1 → va_S (Rg x) H0 H1 locs1 → lv_has ls1 13 [(0, .ref x), (1, .int (e0)), (2, .int (nI q2)), (3, .int (nI p3)), (4, .int (nI p4)), (5, .int (nI a)), (6, .int (nI f6)), (7, .int (nI b)), (8, .int (nI ia)), (9, .int (nI ib)), (10, .int (nI bo))] → W p l e R s m args below meth c H1 locs1 0 0 Qq (F0 m 207 ls1 [])) : W p l e R s m args below meth c H locs 0 0 Qq (F0 m 183 ls []) := by
  have hx := C0.1.1
  have hb := C0.1.2.1
  subst hR
  refine lv_iload hx hb dL_isOrder_183 (lv_at hl 10 rfl) ?_
  refine mr_eq0N (x := bo) (tgt := 205) C0 dL_isOrder_185 (by decide) (by omega) (fun c185 => absurd c185 (by omega)) (fun c185 => ?_)
  clear c185
  refine lv_iload hx hb dL_isOrder_188 (lv_at hl 8 rfl) ?_
  refine mr_le0N (x := ia) (tgt := 205) C0 dL_isOrder_190 (by decide) (by omega) (fun c190 => ?_) (fun c190 => absurd c190 (by omega))
  clear c190
  refine lv_iload_n hx hb dL_isOrder_205 rfl (lv_at hl 2 rfl) ?_
  refine mr_top (y := nI q2) (congrArg nI hq) ?_
  refine lv_istore_n (lv' := [(2, .int (nI q2)), (0, .ref x), (1, .int (e0)), (3, .int (nI p3)), (4, .int (nI p4)), (5, .int (nI a)), (6, .int (nI f6)), (7, .int (nI b)), (8, .int (nI ia)), (9, .int (nI ib)), (10, .int (nI bo))]) hx hb dL_isOrder_206 rfl hl (by decide) rfl (fun ls hl => ?_)
  exact kk _ _ _ hW hS (lv_sub hl [1, 2, 0, 3, 4, 5, 6, 7, 8, 9, 10] rfl)
set_option maxHeartbeats 4000000 in
set_option maxRecDepth 100000 in
theorem io_4g {p : Program} {l : Launch} {e : Env} {R : Room} {s : State} {m : MethodId} {args : Array Value} {below : List Frame} {meth : Method} {c : Code} {Qq : State → Prop} {D : va_G} {T : Nat → ClassId} {H0 : Heap} {x n t : Nat} {w : Nat → Int32} {P Q : Nat → Nat → Int32} {kp : Nat → Bool} {a b p2 p3 p4 f6 ia ib bo q2 : Nat} {H : Heap} {locs : List Loc} {ls : Array Slot} {e0 : Int32} {r0 : Nat} (C0 : Cx p s m args c cL_isOrder 13 wsL_isOrder RL D T) (hR : R = { frames := 8, cells := 0, slots := 0, locals := 190 }) (hG : Good w t) (hE : EpOk w e0 r0) (ha : a < 8) (hb8 : b < 8) (hia : ia ≤ 4) (hib : ib ≤ 4) (hbo : bo ≤ 1) (h1 : bo = 1) (h2 : 3 ≤ ia) (hq : p2 = q2) (hW : Wo D T x t (n, w, P, Q, kp) H) (hS : va_S (Rg x) H0 H locs) (hl : lv_has ls 13 [(0, .ref x), (1, .int (e0)), (2, .int (nI p2)), (3, .int (nI p3)), (4, .int (nI p4)), (5, .int (nI a)), (6, .int (nI f6)), (7, .int (nI b)), (8, .int (nI ia)), (9, .int (nI ib)), (10, .int (nI bo))])
    (kk : ∀ (H1 : Heap) (locs1 : List Loc) (ls1 : Array Slot), Wo D T x t (n, w, P, Q, kp) H1 → va_S (Rg x) H0 H1 locs1 → lv_has ls1 13 [(0, .ref x), (1, .int (e0)), (2, .int (nI q2)), (3, .int (nI p3)), (4, .int (nI p4)), (5, .int (nI a)), (6, .int (nI f6)), (7, .int (nI b)), (8, .int (nI ia)), (9, .int (nI ib)), (10, .int (nI bo))] → W p l e R s m args below meth c H1 locs1 0 0 Qq (F0 m 207 ls1 [])) : W p l e R s m args below meth c H locs 0 0 Qq (F0 m 183 ls []) := by
  have hx := C0.1.1
  have hb := C0.1.2.1
  subst hR
  refine lv_iload hx hb dL_isOrder_183 (lv_at hl 10 rfl) ?_
  refine mr_eq0N (x := bo) (tgt := 205) C0 dL_isOrder_185 (by decide) (by omega) (fun c185 => absurd c185 (by omega)) (fun c185 => ?_)
  clear c185
  refine lv_iload hx hb dL_isOrder_188 (lv_at hl 8 rfl) ?_
  refine mr_le0N (x := ia) (tgt := 205) C0 dL_isOrder_190 (by decide) (by omega) (fun c190 => absurd c190 (by omega)) (fun c190 => ?_)
  clear c190
  refine lv_iload hx hb dL_isOrder_193 (lv_at hl 8 rfl) ?_
  refine lv_iconst (v := nI 3) hx hb dL_isOrder_195 (by decide) ?_
  refine mr_geN (x := ia) (y := 3) (tgt := 205) C0 dL_isOrder_196 (by decide) (by omega) (by omega) (fun c196 => ?_) (fun c196 => absurd c196 (by omega))
  clear c196
  refine lv_iload_n hx hb dL_isOrder_205 rfl (lv_at hl 2 rfl) ?_
  refine mr_top (y := nI q2) (congrArg nI hq) ?_
  refine lv_istore_n (lv' := [(2, .int (nI q2)), (0, .ref x), (1, .int (e0)), (3, .int (nI p3)), (4, .int (nI p4)), (5, .int (nI a)), (6, .int (nI f6)), (7, .int (nI b)), (8, .int (nI ia)), (9, .int (nI ib)), (10, .int (nI bo))]) hx hb dL_isOrder_206 rfl hl (by decide) rfl (fun ls hl => ?_)
  exact kk _ _ _ hW hS (lv_sub hl [1, 2, 0, 3, 4, 5, 6, 7, 8, 9, 10] rfl)
set_option maxHeartbeats 4000000 in
set_option maxRecDepth 100000 in
theorem io_4y {p : Program} {l : Launch} {e : Env} {R : Room} {s : State} {m : MethodId} {args : Array Value} {below : List Frame} {meth : Method} {c : Code} {Qq : State → Prop} {D : va_G} {T : Nat → ClassId} {H0 : Heap} {x n t : Nat} {w : Nat → Int32} {P Q : Nat → Nat → Int32} {kp : Nat → Bool} {a b p2 p3 p4 f6 ia ib bo q2 : Nat} {H : Heap} {locs : List Loc} {ls : Array Slot} {e0 : Int32} {r0 : Nat} (C0 : Cx p s m args c cL_isOrder 13 wsL_isOrder RL D T) (hR : R = { frames := 8, cells := 0, slots := 0, locals := 190 }) (hG : Good w t) (hE : EpOk w e0 r0) (ha : a < 8) (hb8 : b < 8) (hia : ia ≤ 4) (hib : ib ≤ 4) (hbo : bo ≤ 1) (h1 : bo = 1) (h2 : 0 < ia ∧ ia < 3) (hq : p2 + 1 = q2) (hW : Wo D T x t (n, w, P, Q, kp) H) (hS : va_S (Rg x) H0 H locs) (hl : lv_has ls 13 [(0, .ref x), (1, .int (e0)), (2, .int (nI p2)), (3, .int (nI p3)), (4, .int (nI p4)), (5, .int (nI a)), (6, .int (nI f6)), (7, .int (nI b)), (8, .int (nI ia)), (9, .int (nI ib)), (10, .int (nI bo))])
    (kk : ∀ (H1 : Heap) (locs1 : List Loc) (ls1 : Array Slot), Wo D T x t (n, w, P, Q, kp) H1 → va_S (Rg x) H0 H1 locs1 → lv_has ls1 13 [(0, .ref x), (1, .int (e0)), (2, .int (nI q2)), (3, .int (nI p3)), (4, .int (nI p4)), (5, .int (nI a)), (6, .int (nI f6)), (7, .int (nI b)), (8, .int (nI ia)), (9, .int (nI ib)), (10, .int (nI bo))] → W p l e R s m args below meth c H1 locs1 0 0 Qq (F0 m 207 ls1 [])) : W p l e R s m args below meth c H locs 0 0 Qq (F0 m 183 ls []) := by
  have hx := C0.1.1
  have hb := C0.1.2.1
  subst hR
  refine lv_iload hx hb dL_isOrder_183 (lv_at hl 10 rfl) ?_
  refine mr_eq0N (x := bo) (tgt := 205) C0 dL_isOrder_185 (by decide) (by omega) (fun c185 => absurd c185 (by omega)) (fun c185 => ?_)
  clear c185
  refine lv_iload hx hb dL_isOrder_188 (lv_at hl 8 rfl) ?_
  refine mr_le0N (x := ia) (tgt := 205) C0 dL_isOrder_190 (by decide) (by omega) (fun c190 => absurd c190 (by omega)) (fun c190 => ?_)
  clear c190
  refine lv_iload hx hb dL_isOrder_193 (lv_at hl 8 rfl) ?_
  refine lv_iconst (v := nI 3) hx hb dL_isOrder_195 (by decide) ?_
  refine mr_geN (x := ia) (y := 3) (tgt := 205) C0 dL_isOrder_196 (by decide) (by omega) (by omega) (fun c196 => absurd c196 (by omega)) (fun c196 => ?_)
  clear c196
  refine lv_iload_n hx hb dL_isOrder_199 rfl (lv_at hl 2 rfl) ?_
  refine lv_iconst (v := nI 1) hx hb dL_isOrder_200 (by decide) ?_
  refine mr_iaddN (z := p2 + 1) C0 (rfl) dL_isOrder_201 ?_
  refine lv_goto (tgt := 206) hx hb dL_isOrder_202 (by decide) ?_
  refine mr_top (y := nI q2) (congrArg nI hq) ?_
  refine lv_istore_n (lv' := [(2, .int (nI q2)), (0, .ref x), (1, .int (e0)), (3, .int (nI p3)), (4, .int (nI p4)), (5, .int (nI a)), (6, .int (nI f6)), (7, .int (nI b)), (8, .int (nI ia)), (9, .int (nI ib)), (10, .int (nI bo))]) hx hb dL_isOrder_206 rfl hl (by decide) rfl (fun ls hl => ?_)
  exact kk _ _ _ hW hS (lv_sub hl [1, 2, 0, 3, 4, 5, 6, 7, 8, 9, 10] rfl)
set_option maxHeartbeats 4000000 in
set_option maxRecDepth 100000 in
theorem io_5n {p : Program} {l : Launch} {e : Env} {R : Room} {s : State} {m : MethodId} {args : Array Value} {below : List Frame} {meth : Method} {c : Code} {Qq : State → Prop} {D : va_G} {T : Nat → ClassId} {H0 : Heap} {x n t : Nat} {w : Nat → Int32} {P Q : Nat → Nat → Int32} {kp : Nat → Bool} {a b p2 p3 p4 f6 ia ib bo q6 : Nat} {H : Heap} {locs : List Loc} {ls : Array Slot} {e0 : Int32} {r0 : Nat} (C0 : Cx p s m args c cL_isOrder 13 wsL_isOrder RL D T) (hR : R = { frames := 8, cells := 0, slots := 0, locals := 190 }) (hG : Good w t) (hE : EpOk w e0 r0) (ha : a < 8) (hb8 : b < 8) (hia : ia ≤ 4) (hib : ib ≤ 4) (hbo : bo ≤ 1) (hf6 : f6 ≤ 1) (h1 : f6 = 0) (hq : 0 = q6) (hW : Wo D T x t (n, w, P, Q, kp) H) (hS : va_S (Rg x) H0 H locs) (hl : lv_has ls 13 [(0, .ref x), (1, .int (e0)), (2, .int (nI p2)), (3, .int (nI p3)), (4, .int (nI p4)), (5, .int (nI a)), (6, .int (nI f6)), (7, .int (nI b)), (8, .int (nI ia)), (9, .int (nI ib)), (10, .int (nI bo))])
    (kk : ∀ (H1 : Heap) (locs1 : List Loc) (ls1 : Array Slot), Wo D T x t (n, w, P, Q, kp) H1 → va_S (Rg x) H0 H1 locs1 → lv_has ls1 13 [(0, .ref x), (1, .int (e0)), (2, .int (nI p2)), (3, .int (nI p3)), (4, .int (nI p4)), (5, .int (nI a)), (6, .int (nI q6)), (7, .int (nI b)), (8, .int (nI ia)), (9, .int (nI ib)), (10, .int (nI bo))] → W p l e R s m args below meth c H1 locs1 0 0 Qq (F0 m 230 ls1 [])) : W p l e R s m args below meth c H locs 0 0 Qq (F0 m 207 ls []) := by
  have hx := C0.1.1
  have hb := C0.1.2.1
  subst hR
  refine lv_iload hx hb dL_isOrder_207 (lv_at hl 6 rfl) ?_
  refine mr_eq0N (x := f6) (tgt := 227) C0 dL_isOrder_209 (by decide) (by omega) (fun c209 => ?_) (fun c209 => absurd c209 (by omega))
  clear c209
  refine lv_iconst (v := nI 0) hx hb dL_isOrder_227 (by decide) ?_
  refine mr_top (y := nI q6) (congrArg nI hq) ?_
  refine lv_istore (lv' := [(6, .int (nI q6)), (0, .ref x), (1, .int (e0)), (2, .int (nI p2)), (3, .int (nI p3)), (4, .int (nI p4)), (5, .int (nI a)), (7, .int (nI b)), (8, .int (nI ia)), (9, .int (nI ib)), (10, .int (nI bo))]) hx hb dL_isOrder_228 hl (by decide) rfl (fun ls hl => ?_)
  exact kk _ _ _ hW hS (lv_sub hl [1, 2, 3, 4, 5, 6, 0, 7, 8, 9, 10] rfl)
set_option maxHeartbeats 4000000 in
set_option maxRecDepth 100000 in
theorem io_5b {p : Program} {l : Launch} {e : Env} {R : Room} {s : State} {m : MethodId} {args : Array Value} {below : List Frame} {meth : Method} {c : Code} {Qq : State → Prop} {D : va_G} {T : Nat → ClassId} {H0 : Heap} {x n t : Nat} {w : Nat → Int32} {P Q : Nat → Nat → Int32} {kp : Nat → Bool} {a b p2 p3 p4 f6 ia ib bo q6 : Nat} {H : Heap} {locs : List Loc} {ls : Array Slot} {e0 : Int32} {r0 : Nat} (C0 : Cx p s m args c cL_isOrder 13 wsL_isOrder RL D T) (hR : R = { frames := 8, cells := 0, slots := 0, locals := 190 }) (hG : Good w t) (hE : EpOk w e0 r0) (ha : a < 8) (hb8 : b < 8) (hia : ia ≤ 4) (hib : ib ≤ 4) (hbo : bo ≤ 1) (hf6 : f6 ≤ 1) (h1 : f6 = 1) (h2 : bo = 0) (hq : 1 = q6) (hW : Wo D T x t (n, w, P, Q, kp) H) (hS : va_S (Rg x) H0 H locs) (hl : lv_has ls 13 [(0, .ref x), (1, .int (e0)), (2, .int (nI p2)), (3, .int (nI p3)), (4, .int (nI p4)), (5, .int (nI a)), (6, .int (nI f6)), (7, .int (nI b)), (8, .int (nI ia)), (9, .int (nI ib)), (10, .int (nI bo))])
    (kk : ∀ (H1 : Heap) (locs1 : List Loc) (ls1 : Array Slot), Wo D T x t (n, w, P, Q, kp) H1 → va_S (Rg x) H0 H1 locs1 → lv_has ls1 13 [(0, .ref x), (1, .int (e0)), (2, .int (nI p2)), (3, .int (nI p3)), (4, .int (nI p4)), (5, .int (nI a)), (6, .int (nI q6)), (7, .int (nI b)), (8, .int (nI ia)), (9, .int (nI ib)), (10, .int (nI bo))] → W p l e R s m args below meth c H1 locs1 0 0 Qq (F0 m 230 ls1 [])) : W p l e R s m args below meth c H locs 0 0 Qq (F0 m 207 ls []) := by
  have hx := C0.1.1
  have hb := C0.1.2.1
  subst hR
  refine lv_iload hx hb dL_isOrder_207 (lv_at hl 6 rfl) ?_
  refine mr_eq0N (x := f6) (tgt := 227) C0 dL_isOrder_209 (by decide) (by omega) (fun c209 => absurd c209 (by omega)) (fun c209 => ?_)
  clear c209
  refine lv_iload hx hb dL_isOrder_212 (lv_at hl 10 rfl) ?_
  refine mr_eq0N (x := bo) (tgt := 223) C0 dL_isOrder_214 (by decide) (by omega) (fun c214 => ?_) (fun c214 => absurd c214 (by omega))
  clear c214
  refine lv_iconst (v := nI 1) hx hb dL_isOrder_223 (by decide) ?_
  refine lv_goto (tgt := 228) hx hb dL_isOrder_224 (by decide) ?_
  refine mr_top (y := nI q6) (congrArg nI hq) ?_
  refine lv_istore (lv' := [(6, .int (nI q6)), (0, .ref x), (1, .int (e0)), (2, .int (nI p2)), (3, .int (nI p3)), (4, .int (nI p4)), (5, .int (nI a)), (7, .int (nI b)), (8, .int (nI ia)), (9, .int (nI ib)), (10, .int (nI bo))]) hx hb dL_isOrder_228 hl (by decide) rfl (fun ls hl => ?_)
  exact kk _ _ _ hW hS (lv_sub hl [1, 2, 3, 4, 5, 6, 0, 7, 8, 9, 10] rfl)
set_option maxHeartbeats 4000000 in
set_option maxRecDepth 100000 in
theorem io_5y {p : Program} {l : Launch} {e : Env} {R : Room} {s : State} {m : MethodId} {args : Array Value} {below : List Frame} {meth : Method} {c : Code} {Qq : State → Prop} {D : va_G} {T : Nat → ClassId} {H0 : Heap} {x n t : Nat} {w : Nat → Int32} {P Q : Nat → Nat → Int32} {kp : Nat → Bool} {a b p2 p3 p4 f6 ia ib bo q6 : Nat} {H : Heap} {locs : List Loc} {ls : Array Slot} {e0 : Int32} {r0 : Nat} (C0 : Cx p s m args c cL_isOrder 13 wsL_isOrder RL D T) (hR : R = { frames := 8, cells := 0, slots := 0, locals := 190 }) (hG : Good w t) (hE : EpOk w e0 r0) (ha : a < 8) (hb8 : b < 8) (hia : ia ≤ 4) (hib : ib ≤ 4) (hbo : bo ≤ 1) (hf6 : f6 ≤ 1) (h1 : f6 = 1) (h2 : bo = 1) (h3 : ia ≤ 2) (hq : 1 = q6) (hW : Wo D T x t (n, w, P, Q, kp) H) (hS : va_S (Rg x) H0 H locs) (hl : lv_has ls 13 [(0, .ref x), (1, .int (e0)), (2, .int (nI p2)), (3, .int (nI p3)), (4, .int (nI p4)), (5, .int (nI a)), (6, .int (nI f6)), (7, .int (nI b)), (8, .int (nI ia)), (9, .int (nI ib)), (10, .int (nI bo))])
    (kk : ∀ (H1 : Heap) (locs1 : List Loc) (ls1 : Array Slot), Wo D T x t (n, w, P, Q, kp) H1 → va_S (Rg x) H0 H1 locs1 → lv_has ls1 13 [(0, .ref x), (1, .int (e0)), (2, .int (nI p2)), (3, .int (nI p3)), (4, .int (nI p4)), (5, .int (nI a)), (6, .int (nI q6)), (7, .int (nI b)), (8, .int (nI ia)), (9, .int (nI ib)), (10, .int (nI bo))] → W p l e R s m args below meth c H1 locs1 0 0 Qq (F0 m 230 ls1 [])) : W p l e R s m args below meth c H locs 0 0 Qq (F0 m 207 ls []) := by
  have hx := C0.1.1
  have hb := C0.1.2.1
  subst hR
  refine lv_iload hx hb dL_isOrder_207 (lv_at hl 6 rfl) ?_
  refine mr_eq0N (x := f6) (tgt := 227) C0 dL_isOrder_209 (by decide) (by omega) (fun c209 => absurd c209 (by omega)) (fun c209 => ?_)
  clear c209
  refine lv_iload hx hb dL_isOrder_212 (lv_at hl 10 rfl) ?_
  refine mr_eq0N (x := bo) (tgt := 223) C0 dL_isOrder_214 (by decide) (by omega) (fun c214 => absurd c214 (by omega)) (fun c214 => ?_)
  clear c214
  refine lv_iload hx hb dL_isOrder_217 (lv_at hl 8 rfl) ?_
  refine lv_iconst (v := nI 2) hx hb dL_isOrder_219 (by decide) ?_
  refine mr_gtN (x := ia) (y := 2) (tgt := 227) C0 dL_isOrder_220 (by decide) (by omega) (by omega) (fun c220 => absurd c220 (by omega)) (fun c220 => ?_)
  clear c220
  refine lv_iconst (v := nI 1) hx hb dL_isOrder_223 (by decide) ?_
  refine lv_goto (tgt := 228) hx hb dL_isOrder_224 (by decide) ?_
  refine mr_top (y := nI q6) (congrArg nI hq) ?_
  refine lv_istore (lv' := [(6, .int (nI q6)), (0, .ref x), (1, .int (e0)), (2, .int (nI p2)), (3, .int (nI p3)), (4, .int (nI p4)), (5, .int (nI a)), (7, .int (nI b)), (8, .int (nI ia)), (9, .int (nI ib)), (10, .int (nI bo))]) hx hb dL_isOrder_228 hl (by decide) rfl (fun ls hl => ?_)
  exact kk _ _ _ hW hS (lv_sub hl [1, 2, 3, 4, 5, 6, 0, 7, 8, 9, 10] rfl)
set_option maxHeartbeats 4000000 in
set_option maxRecDepth 100000 in
theorem io_5g {p : Program} {l : Launch} {e : Env} {R : Room} {s : State} {m : MethodId} {args : Array Value} {below : List Frame} {meth : Method} {c : Code} {Qq : State → Prop} {D : va_G} {T : Nat → ClassId} {H0 : Heap} {x n t : Nat} {w : Nat → Int32} {P Q : Nat → Nat → Int32} {kp : Nat → Bool} {a b p2 p3 p4 f6 ia ib bo q6 : Nat} {H : Heap} {locs : List Loc} {ls : Array Slot} {e0 : Int32} {r0 : Nat} (C0 : Cx p s m args c cL_isOrder 13 wsL_isOrder RL D T) (hR : R = { frames := 8, cells := 0, slots := 0, locals := 190 }) (hG : Good w t) (hE : EpOk w e0 r0) (ha : a < 8) (hb8 : b < 8) (hia : ia ≤ 4) (hib : ib ≤ 4) (hbo : bo ≤ 1) (hf6 : f6 ≤ 1) (h1 : f6 = 1) (h2 : bo = 1) (h3 : 2 < ia) (hq : 0 = q6) (hW : Wo D T x t (n, w, P, Q, kp) H) (hS : va_S (Rg x) H0 H locs) (hl : lv_has ls 13 [(0, .ref x), (1, .int (e0)), (2, .int (nI p2)), (3, .int (nI p3)), (4, .int (nI p4)), (5, .int (nI a)), (6, .int (nI f6)), (7, .int (nI b)), (8, .int (nI ia)), (9, .int (nI ib)), (10, .int (nI bo))])
    (kk : ∀ (H1 : Heap) (locs1 : List Loc) (ls1 : Array Slot), Wo D T x t (n, w, P, Q, kp) H1 → va_S (Rg x) H0 H1 locs1 → lv_has ls1 13 [(0, .ref x), (1, .int (e0)), (2, .int (nI p2)), (3, .int (nI p3)), (4, .int (nI p4)), (5, .int (nI a)), (6, .int (nI q6)), (7, .int (nI b)), (8, .int (nI ia)), (9, .int (nI ib)), (10, .int (nI bo))] → W p l e R s m args below meth c H1 locs1 0 0 Qq (F0 m 230 ls1 [])) : W p l e R s m args below meth c H locs 0 0 Qq (F0 m 207 ls []) := by
  have hx := C0.1.1
  have hb := C0.1.2.1
  subst hR
  refine lv_iload hx hb dL_isOrder_207 (lv_at hl 6 rfl) ?_
  refine mr_eq0N (x := f6) (tgt := 227) C0 dL_isOrder_209 (by decide) (by omega) (fun c209 => absurd c209 (by omega)) (fun c209 => ?_)
  clear c209
  refine lv_iload hx hb dL_isOrder_212 (lv_at hl 10 rfl) ?_
  refine mr_eq0N (x := bo) (tgt := 223) C0 dL_isOrder_214 (by decide) (by omega) (fun c214 => absurd c214 (by omega)) (fun c214 => ?_)
  clear c214
  refine lv_iload hx hb dL_isOrder_217 (lv_at hl 8 rfl) ?_
  refine lv_iconst (v := nI 2) hx hb dL_isOrder_219 (by decide) ?_
  refine mr_gtN (x := ia) (y := 2) (tgt := 227) C0 dL_isOrder_220 (by decide) (by omega) (by omega) (fun c220 => ?_) (fun c220 => absurd c220 (by omega))
  clear c220
  refine lv_iconst (v := nI 0) hx hb dL_isOrder_227 (by decide) ?_
  refine mr_top (y := nI q6) (congrArg nI hq) ?_
  refine lv_istore (lv' := [(6, .int (nI q6)), (0, .ref x), (1, .int (e0)), (2, .int (nI p2)), (3, .int (nI p3)), (4, .int (nI p4)), (5, .int (nI a)), (7, .int (nI b)), (8, .int (nI ia)), (9, .int (nI ib)), (10, .int (nI bo))]) hx hb dL_isOrder_228 hl (by decide) rfl (fun ls hl => ?_)
  exact kk _ _ _ hW hS (lv_sub hl [1, 2, 3, 4, 5, 6, 0, 7, 8, 9, 10] rfl)
set_option maxHeartbeats 4000000 in
set_option maxRecDepth 100000 in
theorem io_6n {p : Program} {l : Launch} {e : Env} {R : Room} {s : State} {m : MethodId} {args : Array Value} {below : List Frame} {meth : Method} {c : Code} {Qq : State → Prop} {D : va_G} {T : Nat → ClassId} {H0 : Heap} {x n t : Nat} {w : Nat → Int32} {P Q : Nat → Nat → Int32} {kp : Nat → Bool} {a b p2 p3 p4 f6 ia ib bo : Nat} {H : Heap} {locs : List Loc} {ls : Array Slot} {e0 : Int32} {r0 : Nat} (C0 : Cx p s m args c cL_isOrder 13 wsL_isOrder RL D T) (hR : R = { frames := 8, cells := 0, slots := 0, locals := 190 }) (hG : Good w t) (hE : EpOk w e0 r0) (ha : a < 8) (hb8 : b < 8) (hia : ia ≤ 4) (hib : ib ≤ 4) (h1 : ia = 0) (hW : Wo D T x t (n, w, P, Q, kp) H) (hS : va_S (Rg x) H0 H locs) (hl : lv_has ls 13 [(0, .ref x), (1, .int (e0)), (2, .int (nI p2)), (3, .int (nI p3)), (4, .int (nI p4)), (5, .int (nI a)), (6, .int (nI f6)), (7, .int (nI b)), (8, .int (nI ia)), (9, .int (nI ib)), (10, .int (nI bo))])
    (kk : ∀ (H1 : Heap) (locs1 : List Loc) (ls1 : Array Slot), Wo D T x t (n, w, P, Q, kp) H1 → va_S (Rg x) H0 H1 locs1 → lv_has ls1 13 [(0, .ref x), (1, .int (e0)), (2, .int (nI p2)), (3, .int (nI p3)), (4, .int (nI p4)), (5, .int (nI a)), (6, .int (nI f6)), (7, .int (nI b))] → W p l e R s m args below meth c H1 locs1 0 0 Qq (F0 m 324 ls1 [])) : W p l e R s m args below meth c H locs 0 0 Qq (F0 m 230 ls []) := by
  have hx := C0.1.1
  have hb := C0.1.2.1
  subst hR
  refine lv_iconst (v := nI 0) hx hb dL_isOrder_230 (by decide) ?_
  refine lv_istore (lv' := [(11, .int (nI 0)), (0, .ref x), (1, .int (e0)), (2, .int (nI p2)), (3, .int (nI p3)), (4, .int (nI p4)), (5, .int (nI a)), (6, .int (nI f6)), (7, .int (nI b)), (8, .int (nI ia)), (9, .int (nI ib)), (10, .int (nI bo))]) hx hb dL_isOrder_231 hl (by decide) rfl (fun ls hl => ?_)
  refine lv_iload hx hb dL_isOrder_233 (lv_at hl 0 rfl) ?_
  refine lv_bipush (v := nI 8) hx hb dL_isOrder_235 (by decide) ?_
  refine mr_geN (x := 0) (y := 8) (tgt := 324) C0 dL_isOrder_237 (by decide) (by decide) (by decide) (fun c237 => absurd c237 (by omega)) (fun c237 => ?_)
  clear c237
  refine lv_iload hx hb dL_isOrder_240 (lv_at hl 9 rfl) ?_
  refine mr_le0N (x := ia) (tgt := 324) C0 dL_isOrder_242 (by decide) (by omega) (fun c242 => ?_) (fun c242 => absurd c242 (by omega))
  clear c242
  exact kk _ _ _ hW hS (lv_sub hl [1, 2, 3, 4, 5, 6, 7, 8] rfl)
set_option maxHeartbeats 4000000 in
set_option maxRecDepth 100000 in
theorem io_6g {p : Program} {l : Launch} {e : Env} {R : Room} {s : State} {m : MethodId} {args : Array Value} {below : List Frame} {meth : Method} {c : Code} {Qq : State → Prop} {D : va_G} {T : Nat → ClassId} {H0 : Heap} {x n t : Nat} {w : Nat → Int32} {P Q : Nat → Nat → Int32} {kp : Nat → Bool} {a b p2 p3 p4 f6 ia ib bo : Nat} {H : Heap} {locs : List Loc} {ls : Array Slot} {e0 : Int32} {r0 : Nat} (C0 : Cx p s m args c cL_isOrder 13 wsL_isOrder RL D T) (hR : R = { frames := 8, cells := 0, slots := 0, locals := 190 }) (hG : Good w t) (hE : EpOk w e0 r0) (ha : a < 8) (hb8 : b < 8) (hia : ia ≤ 4) (hib : ib ≤ 4) (h1 : 3 ≤ ia) (hW : Wo D T x t (n, w, P, Q, kp) H) (hS : va_S (Rg x) H0 H locs) (hl : lv_has ls 13 [(0, .ref x), (1, .int (e0)), (2, .int (nI p2)), (3, .int (nI p3)), (4, .int (nI p4)), (5, .int (nI a)), (6, .int (nI f6)), (7, .int (nI b)), (8, .int (nI ia)), (9, .int (nI ib)), (10, .int (nI bo))])
    (kk : ∀ (H1 : Heap) (locs1 : List Loc) (ls1 : Array Slot), Wo D T x t (n, w, P, Q, kp) H1 → va_S (Rg x) H0 H1 locs1 → lv_has ls1 13 [(0, .ref x), (1, .int (e0)), (2, .int (nI p2)), (3, .int (nI p3)), (4, .int (nI p4)), (5, .int (nI a)), (6, .int (nI f6)), (7, .int (nI b))] → W p l e R s m args below meth c H1 locs1 0 0 Qq (F0 m 324 ls1 [])) : W p l e R s m args below meth c H locs 0 0 Qq (F0 m 230 ls []) := by
  have hx := C0.1.1
  have hb := C0.1.2.1
  subst hR
  refine lv_iconst (v := nI 0) hx hb dL_isOrder_230 (by decide) ?_
  refine lv_istore (lv' := [(11, .int (nI 0)), (0, .ref x), (1, .int (e0)), (2, .int (nI p2)), (3, .int (nI p3)), (4, .int (nI p4)), (5, .int (nI a)), (6, .int (nI f6)), (7, .int (nI b)), (8, .int (nI ia)), (9, .int (nI ib)), (10, .int (nI bo))]) hx hb dL_isOrder_231 hl (by decide) rfl (fun ls hl => ?_)
  refine lv_iload hx hb dL_isOrder_233 (lv_at hl 0 rfl) ?_
  refine lv_bipush (v := nI 8) hx hb dL_isOrder_235 (by decide) ?_
  refine mr_geN (x := 0) (y := 8) (tgt := 324) C0 dL_isOrder_237 (by decide) (by decide) (by decide) (fun c237 => absurd c237 (by omega)) (fun c237 => ?_)
  clear c237
  refine lv_iload hx hb dL_isOrder_240 (lv_at hl 9 rfl) ?_
  refine mr_le0N (x := ia) (tgt := 324) C0 dL_isOrder_242 (by decide) (by omega) (fun c242 => absurd c242 (by omega)) (fun c242 => ?_)
  clear c242
  refine lv_iload hx hb dL_isOrder_245 (lv_at hl 9 rfl) ?_
  refine lv_iconst (v := nI 3) hx hb dL_isOrder_247 (by decide) ?_
  refine mr_geN (x := ia) (y := 3) (tgt := 324) C0 dL_isOrder_248 (by decide) (by omega) (by omega) (fun c248 => ?_) (fun c248 => absurd c248 (by omega))
  clear c248
  exact kk _ _ _ hW hS (lv_sub hl [1, 2, 3, 4, 5, 6, 7, 8] rfl)
set_option maxHeartbeats 4000000 in
set_option maxRecDepth 100000 in
theorem io_c1 {p : Program} {l : Launch} {e : Env} {R : Room} {s : State} {m : MethodId} {args : Array Value} {below : List Frame} {meth : Method} {c : Code} {Qq : State → Prop} {D : va_G} {T : Nat → ClassId} {H0 : Heap} {x n t : Nat} {w : Nat → Int32} {P Q : Nat → Nat → Int32} {kp : Nat → Bool} {a b c0 p2 p3 p4 f6 ia ib bo : Nat} {H : Heap} {locs : List Loc} {ls : Array Slot} {e0 : Int32} {r0 : Nat} (C0 : Cx p s m args c cL_isOrder 13 wsL_isOrder RL D T) (hR : R = { frames := 8, cells := 0, slots := 0, locals := 190 }) (hG : Good w t) (hE : EpOk w e0 r0) (ha : a < 8) (hb8 : b < 8) (hc : c0 < 8) (hia : 0 < ia ∧ ia < 3) (h1 : c0 = b) (hW : Wo D T x t (n, w, P, Q, kp) H) (hS : va_S (Rg x) H0 H locs) (hl : lv_has ls 13 [(0, .ref x), (1, .int (e0)), (2, .int (nI p2)), (3, .int (nI p3)), (4, .int (nI p4)), (5, .int (nI a)), (6, .int (nI f6)), (7, .int (nI b)), (8, .int (nI ia)), (9, .int (nI ib)), (10, .int (nI bo)), (11, .int (nI c0))])
    (kk : ∀ (H1 : Heap) (locs1 : List Loc) (ls1 : Array Slot), Wo D T x t (n, w, P, Q, kp) H1 → va_S (Rg x) H0 H1 locs1 → lv_has ls1 13 [(0, .ref x), (1, .int (e0)), (2, .int (nI p2)), (3, .int (nI p3)), (4, .int (nI p4)), (5, .int (nI a)), (6, .int (nI f6)), (7, .int (nI b)), (8, .int (nI ia)), (9, .int (nI ib)), (10, .int (nI bo)), (11, .int (nI ((c0 + 1))))] → W p l e R s m args below meth c H1 locs1 0 0 Qq (F0 m 233 ls1 [])) : W p l e R s m args below meth c H locs 0 0 Qq (F0 m 233 ls []) := by
  have hx := C0.1.1
  have hb := C0.1.2.1
  subst hR
  refine lv_iload hx hb dL_isOrder_233 (lv_at hl 11 rfl) ?_
  refine lv_bipush (v := nI 8) hx hb dL_isOrder_235 (by decide) ?_
  refine mr_geN (x := c0) (y := 8) (tgt := 324) C0 dL_isOrder_237 (by decide) (by omega) (by omega) (fun c237 => absurd c237 (by omega)) (fun c237 => ?_)
  clear c237
  refine lv_iload hx hb dL_isOrder_240 (lv_at hl 8 rfl) ?_
  refine mr_le0N (x := ia) (tgt := 324) C0 dL_isOrder_242 (by decide) (by omega) (fun c242 => absurd c242 (by omega)) (fun c242 => ?_)
  clear c242
  refine lv_iload hx hb dL_isOrder_245 (lv_at hl 8 rfl) ?_
  refine lv_iconst (v := nI 3) hx hb dL_isOrder_247 (by decide) ?_
  refine mr_geN (x := ia) (y := 3) (tgt := 324) C0 dL_isOrder_248 (by decide) (by omega) (by omega) (fun c248 => absurd c248 (by omega)) (fun c248 => ?_)
  clear c248
  refine lv_iload hx hb dL_isOrder_251 (lv_at hl 11 rfl) ?_
  refine lv_iload hx hb dL_isOrder_253 (lv_at hl 7 rfl) ?_
  refine mr_eqN (x := c0) (y := b) (tgt := 265) C0 dL_isOrder_255 (by decide) (by omega) (by omega) (fun c255 => ?_) (fun c255 => absurd h1 c255)
  clear c255
  refine lv_iconst (v := nI 0) hx hb dL_isOrder_265 (by decide) ?_
  refine lv_goto (tgt := 278) hx hb dL_isOrder_266 (by decide) ?_
  refine lv_istore (lv' := [(12, .int (nI 0)), (0, .ref x), (1, .int (e0)), (2, .int (nI p2)), (3, .int (nI p3)), (4, .int (nI p4)), (5, .int (nI a)), (6, .int (nI f6)), (7, .int (nI b)), (8, .int (nI ia)), (9, .int (nI ib)), (10, .int (nI bo)), (11, .int (nI c0))]) hx hb dL_isOrder_278 hl (by decide) rfl (fun ls hl => ?_)
  refine lv_iload hx hb dL_isOrder_280 (lv_at hl 0 rfl) ?_
  refine mr_le0N (x := 0) (tgt := 318) C0 dL_isOrder_282 (by decide) (by decide) (fun c282 => ?_) (fun c282 => absurd c282 (by omega))
  clear c282
  refine lv_iinc (k := 12) (v := nI (c0 + 1)) (lv' := [(11, .int (nI (c0 + 1))), (12, .int (nI 0)), (0, .ref x), (1, .int (e0)), (2, .int (nI p2)), (3, .int (nI p3)), (4, .int (nI p4)), (5, .int (nI a)), (6, .int (nI f6)), (7, .int (nI b)), (8, .int (nI ia)), (9, .int (nI ib)), (10, .int (nI bo))]) hx hb dL_isOrder_318 hl rfl (by rw [show Int32.ofInt 1 = nI 1 from by decide, nI_add]) (by decide) rfl (fun ls hl => ?_)
  refine lv_goto (tgt := 233) hx hb dL_isOrder_321 (by decide) ?_
  exact kk _ _ _ hW hS (lv_sub hl [2, 3, 4, 5, 6, 7, 8, 9, 10, 11, 12, 0] rfl)
set_option maxHeartbeats 4000000 in
set_option maxRecDepth 100000 in
theorem io_c2 {p : Program} {l : Launch} {e : Env} {R : Room} {s : State} {m : MethodId} {args : Array Value} {below : List Frame} {meth : Method} {c : Code} {Qq : State → Prop} {D : va_G} {T : Nat → ClassId} {H0 : Heap} {x n t : Nat} {w : Nat → Int32} {P Q : Nat → Nat → Int32} {kp : Nat → Bool} {a b c0 p2 p3 p4 f6 ia ib bo : Nat} {H : Heap} {locs : List Loc} {ls : Array Slot} {e0 : Int32} {r0 : Nat} (C0 : Cx p s m args c cL_isOrder 13 wsL_isOrder RL D T) (hR : R = { frames := 8, cells := 0, slots := 0, locals := 190 }) (hG : Good w t) (hE : EpOk w e0 r0) (ha : a < 8) (hb8 : b < 8) (hc : c0 < 8) (hia : 0 < ia ∧ ia < 3) (h1 : c0 ≠ b) (h2 : c0 = a) (hW : Wo D T x t (n, w, P, Q, kp) H) (hS : va_S (Rg x) H0 H locs) (hl : lv_has ls 13 [(0, .ref x), (1, .int (e0)), (2, .int (nI p2)), (3, .int (nI p3)), (4, .int (nI p4)), (5, .int (nI a)), (6, .int (nI f6)), (7, .int (nI b)), (8, .int (nI ia)), (9, .int (nI ib)), (10, .int (nI bo)), (11, .int (nI c0))])
    (kk : ∀ (H1 : Heap) (locs1 : List Loc) (ls1 : Array Slot), Wo D T x t (n, w, P, Q, kp) H1 → va_S (Rg x) H0 H1 locs1 → lv_has ls1 13 [(0, .ref x), (1, .int (e0)), (2, .int (nI p2)), (3, .int (nI p3)), (4, .int (nI p4)), (5, .int (nI a)), (6, .int (nI f6)), (7, .int (nI b)), (8, .int (nI ia)), (9, .int (nI ib)), (10, .int (nI bo)), (11, .int (nI ((c0 + 1))))] → W p l e R s m args below meth c H1 locs1 0 0 Qq (F0 m 233 ls1 [])) : W p l e R s m args below meth c H locs 0 0 Qq (F0 m 233 ls []) := by
  have hx := C0.1.1
  have hb := C0.1.2.1
  subst hR
  refine lv_iload hx hb dL_isOrder_233 (lv_at hl 11 rfl) ?_
  refine lv_bipush (v := nI 8) hx hb dL_isOrder_235 (by decide) ?_
  refine mr_geN (x := c0) (y := 8) (tgt := 324) C0 dL_isOrder_237 (by decide) (by omega) (by omega) (fun c237 => absurd c237 (by omega)) (fun c237 => ?_)
  clear c237
  refine lv_iload hx hb dL_isOrder_240 (lv_at hl 8 rfl) ?_
  refine mr_le0N (x := ia) (tgt := 324) C0 dL_isOrder_242 (by decide) (by omega) (fun c242 => absurd c242 (by omega)) (fun c242 => ?_)
  clear c242
  refine lv_iload hx hb dL_isOrder_245 (lv_at hl 8 rfl) ?_
  refine lv_iconst (v := nI 3) hx hb dL_isOrder_247 (by decide) ?_
  refine mr_geN (x := ia) (y := 3) (tgt := 324) C0 dL_isOrder_248 (by decide) (by omega) (by omega) (fun c248 => absurd c248 (by omega)) (fun c248 => ?_)
  clear c248
  refine lv_iload hx hb dL_isOrder_251 (lv_at hl 11 rfl) ?_
  refine lv_iload hx hb dL_isOrder_253 (lv_at hl 7 rfl) ?_
  refine mr_eqN (x := c0) (y := b) (tgt := 265) C0 dL_isOrder_255 (by decide) (by omega) (by omega) (fun c255 => absurd c255 h1) (fun c255 => ?_)
  clear c255
  refine lv_iload hx hb dL_isOrder_258 (lv_at hl 11 rfl) ?_
  refine lv_iload hx hb dL_isOrder_260 (lv_at hl 5 rfl) ?_
  refine mr_neN (x := c0) (y := a) (tgt := 269) C0 dL_isOrder_262 (by decide) (by omega) (by omega) (fun c262 => absurd h2 c262) (fun c262 => ?_)
  clear c262
  refine lv_iconst (v := nI 0) hx hb dL_isOrder_265 (by decide) ?_
  refine lv_goto (tgt := 278) hx hb dL_isOrder_266 (by decide) ?_
  refine lv_istore (lv' := [(12, .int (nI 0)), (0, .ref x), (1, .int (e0)), (2, .int (nI p2)), (3, .int (nI p3)), (4, .int (nI p4)), (5, .int (nI a)), (6, .int (nI f6)), (7, .int (nI b)), (8, .int (nI ia)), (9, .int (nI ib)), (10, .int (nI bo)), (11, .int (nI c0))]) hx hb dL_isOrder_278 hl (by decide) rfl (fun ls hl => ?_)
  refine lv_iload hx hb dL_isOrder_280 (lv_at hl 0 rfl) ?_
  refine mr_le0N (x := 0) (tgt := 318) C0 dL_isOrder_282 (by decide) (by decide) (fun c282 => ?_) (fun c282 => absurd c282 (by omega))
  clear c282
  refine lv_iinc (k := 12) (v := nI (c0 + 1)) (lv' := [(11, .int (nI (c0 + 1))), (12, .int (nI 0)), (0, .ref x), (1, .int (e0)), (2, .int (nI p2)), (3, .int (nI p3)), (4, .int (nI p4)), (5, .int (nI a)), (6, .int (nI f6)), (7, .int (nI b)), (8, .int (nI ia)), (9, .int (nI ib)), (10, .int (nI bo))]) hx hb dL_isOrder_318 hl rfl (by rw [show Int32.ofInt 1 = nI 1 from by decide, nI_add]) (by decide) rfl (fun ls hl => ?_)
  refine lv_goto (tgt := 233) hx hb dL_isOrder_321 (by decide) ?_
  exact kk _ _ _ hW hS (lv_sub hl [2, 3, 4, 5, 6, 7, 8, 9, 10, 11, 12, 0] rfl)
set_option maxHeartbeats 4000000 in
set_option maxRecDepth 100000 in
theorem io_c3 {p : Program} {l : Launch} {e : Env} {R : Room} {s : State} {m : MethodId} {args : Array Value} {below : List Frame} {meth : Method} {c : Code} {Qq : State → Prop} {D : va_G} {T : Nat → ClassId} {H0 : Heap} {x n t : Nat} {w : Nat → Int32} {P Q : Nat → Nat → Int32} {kp : Nat → Bool} {a b c0 p2 p3 p4 f6 ia ib bo : Nat} {H : Heap} {locs : List Loc} {ls : Array Slot} {e0 : Int32} {r0 : Nat} (C0 : Cx p s m args c cL_isOrder 13 wsL_isOrder RL D T) (hR : R = { frames := 8, cells := 0, slots := 0, locals := 190 }) (hG : Good w t) (hE : EpOk w e0 r0) (ha : a < 8) (hb8 : b < 8) (hc : c0 < 8) (hia : 0 < ia ∧ ia < 3) (h1 : c0 ≠ b) (h2 : c0 ≠ a) (h3 : relN (mk w r0) b c0 = 0) (hW : Wo D T x t (n, w, P, Q, kp) H) (hS : va_S (Rg x) H0 H locs) (hl : lv_has ls 13 [(0, .ref x), (1, .int (e0)), (2, .int (nI p2)), (3, .int (nI p3)), (4, .int (nI p4)), (5, .int (nI a)), (6, .int (nI f6)), (7, .int (nI b)), (8, .int (nI ia)), (9, .int (nI ib)), (10, .int (nI bo)), (11, .int (nI c0))])
    (kk : ∀ (H1 : Heap) (locs1 : List Loc) (ls1 : Array Slot), Wo D T x t (n, w, P, Q, kp) H1 → va_S (Rg x) H0 H1 locs1 → lv_has ls1 13 [(0, .ref x), (1, .int (e0)), (2, .int (nI p2)), (3, .int (nI p3)), (4, .int (nI p4)), (5, .int (nI a)), (6, .int (nI f6)), (7, .int (nI b)), (8, .int (nI ia)), (9, .int (nI ib)), (10, .int (nI bo)), (11, .int (nI ((c0 + 1))))] → W p l e R s m args below meth c H1 locs1 0 0 Qq (F0 m 233 ls1 [])) : W p l e R s m args below meth c H locs 0 0 Qq (F0 m 233 ls []) := by
  have hx := C0.1.1
  have hb := C0.1.2.1
  subst hR
  refine lv_iload hx hb dL_isOrder_233 (lv_at hl 11 rfl) ?_
  refine lv_bipush (v := nI 8) hx hb dL_isOrder_235 (by decide) ?_
  refine mr_geN (x := c0) (y := 8) (tgt := 324) C0 dL_isOrder_237 (by decide) (by omega) (by omega) (fun c237 => absurd c237 (by omega)) (fun c237 => ?_)
  clear c237
  refine lv_iload hx hb dL_isOrder_240 (lv_at hl 8 rfl) ?_
  refine mr_le0N (x := ia) (tgt := 324) C0 dL_isOrder_242 (by decide) (by omega) (fun c242 => absurd c242 (by omega)) (fun c242 => ?_)
  clear c242
  refine lv_iload hx hb dL_isOrder_245 (lv_at hl 8 rfl) ?_
  refine lv_iconst (v := nI 3) hx hb dL_isOrder_247 (by decide) ?_
  refine mr_geN (x := ia) (y := 3) (tgt := 324) C0 dL_isOrder_248 (by decide) (by omega) (by omega) (fun c248 => absurd c248 (by omega)) (fun c248 => ?_)
  clear c248
  refine lv_iload hx hb dL_isOrder_251 (lv_at hl 11 rfl) ?_
  refine lv_iload hx hb dL_isOrder_253 (lv_at hl 7 rfl) ?_
  refine mr_eqN (x := c0) (y := b) (tgt := 265) C0 dL_isOrder_255 (by decide) (by omega) (by omega) (fun c255 => absurd c255 h1) (fun c255 => ?_)
  clear c255
  refine lv_iload hx hb dL_isOrder_258 (lv_at hl 11 rfl) ?_
  refine lv_iload hx hb dL_isOrder_260 (lv_at hl 5 rfl) ?_
  refine mr_neN (x := c0) (y := a) (tgt := 269) C0 dL_isOrder_262 (by decide) (by omega) (by omega) (fun c262 => ?_) (fun c262 => absurd c262 h2)
  clear c262
  refine lv_aload_n hx hb dL_isOrder_269 rfl (lv_at hl 0 rfl) ?_
  refine lv_iload_n hx hb dL_isOrder_270 rfl (lv_at hl 1 rfl) ?_
  refine lv_iload hx hb dL_isOrder_271 (lv_at hl 7 rfl) ?_
  refine lv_iload hx hb dL_isOrder_273 (lv_at hl 11 rfl) ?_
  refine mo_call (x := x) (As := [.int (e0), .int (nI b), .int (nI c0)]) (rest := []) (st1 := [.int (nI (relN (mk w r0) b c0))]) C0 (op_relation hb8 hc (fun z => h1 z.symm) hE) hW (fun rm x1 x2 x3 x4 => cwV 3 C0.1.2.2.2.2 gL_isOrder_X3_relation rfl x1 x2 (by decide +kernel) ⟨by show _ ≤ 8; omega, by show _ ≤ 190; omega⟩) hS (fun _ h => h) rfl rfl rfl hl.1 (Nat.le_of_ble_eq_true rfl) dL_isOrder_275 ⟨Nat.le_of_ble_eq_true rfl, Nat.le_of_ble_eq_true rfl⟩ (fun H1 locs1 hW hF hS1 => ?_)
  clear hS
  have hS := hS1
  clear hS1 hF
  refine lv_istore (lv' := [(12, .int (nI (relN (mk w r0) b c0))), (0, .ref x), (1, .int (e0)), (2, .int (nI p2)), (3, .int (nI p3)), (4, .int (nI p4)), (5, .int (nI a)), (6, .int (nI f6)), (7, .int (nI b)), (8, .int (nI ia)), (9, .int (nI ib)), (10, .int (nI bo)), (11, .int (nI c0))]) hx hb dL_isOrder_278 hl (by decide) rfl (fun ls hl => ?_)
  refine lv_iload hx hb dL_isOrder_280 (lv_at hl 0 rfl) ?_
  refine mr_le0N (x := relN (mk w r0) b c0) (tgt := 318) C0 dL_isOrder_282 (by decide) (by have := rel_le (mk w r0) b c0; omega) (fun c282 => ?_) (fun c282 => absurd c282 (by omega))
  clear c282
  refine lv_iinc (k := 12) (v := nI (c0 + 1)) (lv' := [(11, .int (nI (c0 + 1))), (12, .int (nI (relN (mk w r0) b c0))), (0, .ref x), (1, .int (e0)), (2, .int (nI p2)), (3, .int (nI p3)), (4, .int (nI p4)), (5, .int (nI a)), (6, .int (nI f6)), (7, .int (nI b)), (8, .int (nI ia)), (9, .int (nI ib)), (10, .int (nI bo))]) hx hb dL_isOrder_318 hl rfl (by rw [show Int32.ofInt 1 = nI 1 from by decide, nI_add]) (by decide) rfl (fun ls hl => ?_)
  refine lv_goto (tgt := 233) hx hb dL_isOrder_321 (by decide) ?_
  exact kk _ _ _ hW hS (lv_sub hl [2, 3, 4, 5, 6, 7, 8, 9, 10, 11, 12, 0] rfl)
set_option maxHeartbeats 4000000 in
set_option maxRecDepth 100000 in
theorem io_c4 {p : Program} {l : Launch} {e : Env} {R : Room} {s : State} {m : MethodId} {args : Array Value} {below : List Frame} {meth : Method} {c : Code} {Qq : State → Prop} {D : va_G} {T : Nat → ClassId} {H0 : Heap} {x n t : Nat} {w : Nat → Int32} {P Q : Nat → Nat → Int32} {kp : Nat → Bool} {a b c0 p2 p3 p4 f6 ia ib bo : Nat} {H : Heap} {locs : List Loc} {ls : Array Slot} {e0 : Int32} {r0 : Nat} (C0 : Cx p s m args c cL_isOrder 13 wsL_isOrder RL D T) (hR : R = { frames := 8, cells := 0, slots := 0, locals := 190 }) (hG : Good w t) (hE : EpOk w e0 r0) (ha : a < 8) (hb8 : b < 8) (hc : c0 < 8) (hia : 0 < ia ∧ ia < 3) (h1 : c0 ≠ b) (h2 : c0 ≠ a) (h3 : 3 ≤ relN (mk w r0) b c0) (hW : Wo D T x t (n, w, P, Q, kp) H) (hS : va_S (Rg x) H0 H locs) (hl : lv_has ls 13 [(0, .ref x), (1, .int (e0)), (2, .int (nI p2)), (3, .int (nI p3)), (4, .int (nI p4)), (5, .int (nI a)), (6, .int (nI f6)), (7, .int (nI b)), (8, .int (nI ia)), (9, .int (nI ib)), (10, .int (nI bo)), (11, .int (nI c0))])
    (kk : ∀ (H1 : Heap) (locs1 : List Loc) (ls1 : Array Slot), Wo D T x t (n, w, P, Q, kp) H1 → va_S (Rg x) H0 H1 locs1 → lv_has ls1 13 [(0, .ref x), (1, .int (e0)), (2, .int (nI p2)), (3, .int (nI p3)), (4, .int (nI p4)), (5, .int (nI a)), (6, .int (nI f6)), (7, .int (nI b)), (8, .int (nI ia)), (9, .int (nI ib)), (10, .int (nI bo)), (11, .int (nI ((c0 + 1))))] → W p l e R s m args below meth c H1 locs1 0 0 Qq (F0 m 233 ls1 [])) : W p l e R s m args below meth c H locs 0 0 Qq (F0 m 233 ls []) := by
  have hx := C0.1.1
  have hb := C0.1.2.1
  subst hR
  refine lv_iload hx hb dL_isOrder_233 (lv_at hl 11 rfl) ?_
  refine lv_bipush (v := nI 8) hx hb dL_isOrder_235 (by decide) ?_
  refine mr_geN (x := c0) (y := 8) (tgt := 324) C0 dL_isOrder_237 (by decide) (by omega) (by omega) (fun c237 => absurd c237 (by omega)) (fun c237 => ?_)
  clear c237
  refine lv_iload hx hb dL_isOrder_240 (lv_at hl 8 rfl) ?_
  refine mr_le0N (x := ia) (tgt := 324) C0 dL_isOrder_242 (by decide) (by omega) (fun c242 => absurd c242 (by omega)) (fun c242 => ?_)
  clear c242
  refine lv_iload hx hb dL_isOrder_245 (lv_at hl 8 rfl) ?_
  refine lv_iconst (v := nI 3) hx hb dL_isOrder_247 (by decide) ?_
  refine mr_geN (x := ia) (y := 3) (tgt := 324) C0 dL_isOrder_248 (by decide) (by omega) (by omega) (fun c248 => absurd c248 (by omega)) (fun c248 => ?_)
  clear c248
  refine lv_iload hx hb dL_isOrder_251 (lv_at hl 11 rfl) ?_
  refine lv_iload hx hb dL_isOrder_253 (lv_at hl 7 rfl) ?_
  refine mr_eqN (x := c0) (y := b) (tgt := 265) C0 dL_isOrder_255 (by decide) (by omega) (by omega) (fun c255 => absurd c255 h1) (fun c255 => ?_)
  clear c255
  refine lv_iload hx hb dL_isOrder_258 (lv_at hl 11 rfl) ?_
  refine lv_iload hx hb dL_isOrder_260 (lv_at hl 5 rfl) ?_
  refine mr_neN (x := c0) (y := a) (tgt := 269) C0 dL_isOrder_262 (by decide) (by omega) (by omega) (fun c262 => ?_) (fun c262 => absurd c262 h2)
  clear c262
  refine lv_aload_n hx hb dL_isOrder_269 rfl (lv_at hl 0 rfl) ?_
  refine lv_iload_n hx hb dL_isOrder_270 rfl (lv_at hl 1 rfl) ?_
  refine lv_iload hx hb dL_isOrder_271 (lv_at hl 7 rfl) ?_
  refine lv_iload hx hb dL_isOrder_273 (lv_at hl 11 rfl) ?_
  refine mo_call (x := x) (As := [.int (e0), .int (nI b), .int (nI c0)]) (rest := []) (st1 := [.int (nI (relN (mk w r0) b c0))]) C0 (op_relation hb8 hc (fun z => h1 z.symm) hE) hW (fun rm x1 x2 x3 x4 => cwV 3 C0.1.2.2.2.2 gL_isOrder_X3_relation rfl x1 x2 (by decide +kernel) ⟨by show _ ≤ 8; omega, by show _ ≤ 190; omega⟩) hS (fun _ h => h) rfl rfl rfl hl.1 (Nat.le_of_ble_eq_true rfl) dL_isOrder_275 ⟨Nat.le_of_ble_eq_true rfl, Nat.le_of_ble_eq_true rfl⟩ (fun H1 locs1 hW hF hS1 => ?_)
  clear hS
  have hS := hS1
  clear hS1 hF
  refine lv_istore (lv' := [(12, .int (nI (relN (mk w r0) b c0))), (0, .ref x), (1, .int (e0)), (2, .int (nI p2)), (3, .int (nI p3)), (4, .int (nI p4)), (5, .int (nI a)), (6, .int (nI f6)), (7, .int (nI b)), (8, .int (nI ia)), (9, .int (nI ib)), (10, .int (nI bo)), (11, .int (nI c0))]) hx hb dL_isOrder_278 hl (by decide) rfl (fun ls hl => ?_)
  refine lv_iload hx hb dL_isOrder_280 (lv_at hl 0 rfl) ?_
  refine mr_le0N (x := relN (mk w r0) b c0) (tgt := 318) C0 dL_isOrder_282 (by decide) (by have := rel_le (mk w r0) b c0; omega) (fun c282 => absurd c282 (by omega)) (fun c282 => ?_)
  clear c282
  refine lv_iload hx hb dL_isOrder_285 (lv_at hl 0 rfl) ?_
  refine lv_iconst (v := nI 3) hx hb dL_isOrder_287 (by decide) ?_
  refine mr_geN (x := relN (mk w r0) b c0) (y := 3) (tgt := 318) C0 dL_isOrder_288 (by decide) (by have := rel_le (mk w r0) b c0; omega) (by decide) (fun c288 => ?_) (fun c288 => absurd c288 (by omega))
  clear c288
  refine lv_iinc (k := 12) (v := nI (c0 + 1)) (lv' := [(11, .int (nI (c0 + 1))), (12, .int (nI (relN (mk w r0) b c0))), (0, .ref x), (1, .int (e0)), (2, .int (nI p2)), (3, .int (nI p3)), (4, .int (nI p4)), (5, .int (nI a)), (6, .int (nI f6)), (7, .int (nI b)), (8, .int (nI ia)), (9, .int (nI ib)), (10, .int (nI bo))]) hx hb dL_isOrder_318 hl rfl (by rw [show Int32.ofInt 1 = nI 1 from by decide, nI_add]) (by decide) rfl (fun ls hl => ?_)
  refine lv_goto (tgt := 233) hx hb dL_isOrder_321 (by decide) ?_
  exact kk _ _ _ hW hS (lv_sub hl [2, 3, 4, 5, 6, 7, 8, 9, 10, 11, 12, 0] rfl)
set_option maxHeartbeats 4000000 in
set_option maxRecDepth 100000 in
theorem io_c5 {p : Program} {l : Launch} {e : Env} {R : Room} {s : State} {m : MethodId} {args : Array Value} {below : List Frame} {meth : Method} {c : Code} {Qq : State → Prop} {D : va_G} {T : Nat → ClassId} {H0 : Heap} {x n t : Nat} {w : Nat → Int32} {P Q : Nat → Nat → Int32} {kp : Nat → Bool} {a b c0 p2 p3 p4 f6 ia ib bo : Nat} {H : Heap} {locs : List Loc} {ls : Array Slot} {e0 : Int32} {r0 : Nat} (C0 : Cx p s m args c cL_isOrder 13 wsL_isOrder RL D T) (hR : R = { frames := 8, cells := 0, slots := 0, locals := 190 }) (hG : Good w t) (hE : EpOk w e0 r0) (ha : a < 8) (hb8 : b < 8) (hc : c0 < 8) (hia : 0 < ia ∧ ia < 3) (h1 : c0 ≠ b) (h2 : c0 ≠ a) (h3 : 0 < relN (mk w r0) b c0 ∧ relN (mk w r0) b c0 < 3) (h4 : 0 < relN (mk w r0) a c0 ∧ relN (mk w r0) a c0 < 3) (hW : Wo D T x t (n, w, P, Q, kp) H) (hS : va_S (Rg x) H0 H locs) (hl : lv_has ls 13 [(0, .ref x), (1, .int (e0)), (2, .int (nI p2)), (3, .int (nI p3)), (4, .int (nI p4)), (5, .int (nI a)), (6, .int (nI f6)), (7, .int (nI b)), (8, .int (nI ia)), (9, .int (nI ib)), (10, .int (nI bo)), (11, .int (nI c0))])
    (kk : ∀ (H1 : Heap) (locs1 : List Loc) (ls1 : Array Slot), Wo D T x t (n, w, P, Q, kp) H1 → va_S (Rg x) H0 H1 locs1 → lv_has ls1 13 [(0, .ref x), (1, .int (e0)), (2, .int (nI p2)), (3, .int (nI p3)), (4, .int (nI p4)), (5, .int (nI a)), (6, .int (nI f6)), (7, .int (nI b)), (8, .int (nI ia)), (9, .int (nI ib)), (10, .int (nI bo)), (11, .int (nI ((c0 + 1))))] → W p l e R s m args below meth c H1 locs1 0 0 Qq (F0 m 233 ls1 [])) : W p l e R s m args below meth c H locs 0 0 Qq (F0 m 233 ls []) := by
  have hx := C0.1.1
  have hb := C0.1.2.1
  subst hR
  refine lv_iload hx hb dL_isOrder_233 (lv_at hl 11 rfl) ?_
  refine lv_bipush (v := nI 8) hx hb dL_isOrder_235 (by decide) ?_
  refine mr_geN (x := c0) (y := 8) (tgt := 324) C0 dL_isOrder_237 (by decide) (by omega) (by omega) (fun c237 => absurd c237 (by omega)) (fun c237 => ?_)
  clear c237
  refine lv_iload hx hb dL_isOrder_240 (lv_at hl 8 rfl) ?_
  refine mr_le0N (x := ia) (tgt := 324) C0 dL_isOrder_242 (by decide) (by omega) (fun c242 => absurd c242 (by omega)) (fun c242 => ?_)
  clear c242
  refine lv_iload hx hb dL_isOrder_245 (lv_at hl 8 rfl) ?_
  refine lv_iconst (v := nI 3) hx hb dL_isOrder_247 (by decide) ?_
  refine mr_geN (x := ia) (y := 3) (tgt := 324) C0 dL_isOrder_248 (by decide) (by omega) (by omega) (fun c248 => absurd c248 (by omega)) (fun c248 => ?_)
  clear c248
  refine lv_iload hx hb dL_isOrder_251 (lv_at hl 11 rfl) ?_
  refine lv_iload hx hb dL_isOrder_253 (lv_at hl 7 rfl) ?_
  refine mr_eqN (x := c0) (y := b) (tgt := 265) C0 dL_isOrder_255 (by decide) (by omega) (by omega) (fun c255 => absurd c255 h1) (fun c255 => ?_)
  clear c255
  refine lv_iload hx hb dL_isOrder_258 (lv_at hl 11 rfl) ?_
  refine lv_iload hx hb dL_isOrder_260 (lv_at hl 5 rfl) ?_
  refine mr_neN (x := c0) (y := a) (tgt := 269) C0 dL_isOrder_262 (by decide) (by omega) (by omega) (fun c262 => ?_) (fun c262 => absurd c262 h2)
  clear c262
  refine lv_aload_n hx hb dL_isOrder_269 rfl (lv_at hl 0 rfl) ?_
  refine lv_iload_n hx hb dL_isOrder_270 rfl (lv_at hl 1 rfl) ?_
  refine lv_iload hx hb dL_isOrder_271 (lv_at hl 7 rfl) ?_
  refine lv_iload hx hb dL_isOrder_273 (lv_at hl 11 rfl) ?_
  refine mo_call (x := x) (As := [.int (e0), .int (nI b), .int (nI c0)]) (rest := []) (st1 := [.int (nI (relN (mk w r0) b c0))]) C0 (op_relation hb8 hc (fun z => h1 z.symm) hE) hW (fun rm x1 x2 x3 x4 => cwV 3 C0.1.2.2.2.2 gL_isOrder_X3_relation rfl x1 x2 (by decide +kernel) ⟨by show _ ≤ 8; omega, by show _ ≤ 190; omega⟩) hS (fun _ h => h) rfl rfl rfl hl.1 (Nat.le_of_ble_eq_true rfl) dL_isOrder_275 ⟨Nat.le_of_ble_eq_true rfl, Nat.le_of_ble_eq_true rfl⟩ (fun H1 locs1 hW hF hS1 => ?_)
  clear hS
  have hS := hS1
  clear hS1 hF
  refine lv_istore (lv' := [(12, .int (nI (relN (mk w r0) b c0))), (0, .ref x), (1, .int (e0)), (2, .int (nI p2)), (3, .int (nI p3)), (4, .int (nI p4)), (5, .int (nI a)), (6, .int (nI f6)), (7, .int (nI b)), (8, .int (nI ia)), (9, .int (nI ib)), (10, .int (nI bo)), (11, .int (nI c0))]) hx hb dL_isOrder_278 hl (by decide) rfl (fun ls hl => ?_)
  refine lv_iload hx hb dL_isOrder_280 (lv_at hl 0 rfl) ?_
  refine mr_le0N (x := relN (mk w r0) b c0) (tgt := 318) C0 dL_isOrder_282 (by decide) (by have := rel_le (mk w r0) b c0; omega) (fun c282 => absurd c282 (by omega)) (fun c282 => ?_)
  clear c282
  refine lv_iload hx hb dL_isOrder_285 (lv_at hl 0 rfl) ?_
  refine lv_iconst (v := nI 3) hx hb dL_isOrder_287 (by decide) ?_
  refine mr_geN (x := relN (mk w r0) b c0) (y := 3) (tgt := 318) C0 dL_isOrder_288 (by decide) (by have := rel_le (mk w r0) b c0; omega) (by decide) (fun c288 => absurd c288 (by omega)) (fun c288 => ?_)
  clear c288
  refine lv_aload_n hx hb dL_isOrder_291 rfl (lv_at hl 1 rfl) ?_
  refine lv_iload_n hx hb dL_isOrder_292 rfl (lv_at hl 2 rfl) ?_
  refine lv_iload hx hb dL_isOrder_293 (lv_at hl 6 rfl) ?_
  refine lv_iload hx hb dL_isOrder_295 (lv_at hl 12 rfl) ?_
  refine mo_call (x := x) (As := [.int (e0), .int (nI a), .int (nI c0)]) (rest := []) (st1 := [.int (nI (relN (mk w r0) a c0))]) C0 (op_relation ha hc (fun z => h2 z.symm) hE) hW (fun rm x1 x2 x3 x4 => cwV 3 C0.1.2.2.2.2 gL_isOrder_X3_relation rfl x1 x2 (by decide +kernel) ⟨by show _ ≤ 8; omega, by show _ ≤ 190; omega⟩) hS (fun _ h => h) rfl rfl rfl hl.1 (Nat.le_of_ble_eq_true rfl) dL_isOrder_297 ⟨Nat.le_of_ble_eq_true rfl, Nat.le_of_ble_eq_true rfl⟩ (fun H1 locs1 hW hF hS1 => ?_)
  clear hS
  have hS := hS1
  clear hS1 hF
  refine mr_eq0N (x := relN (mk w r0) a c0) (tgt := 316) C0 dL_isOrder_300 (by decide) (by have := rel_le (mk w r0) a c0; omega) (fun c300 => absurd c300 (by omega)) (fun c300 => ?_)
  clear c300
  refine lv_aload_n hx hb dL_isOrder_303 rfl (lv_at hl 1 rfl) ?_
  refine lv_iload_n hx hb dL_isOrder_304 rfl (lv_at hl 2 rfl) ?_
  refine lv_iload hx hb dL_isOrder_305 (lv_at hl 6 rfl) ?_
  refine lv_iload hx hb dL_isOrder_307 (lv_at hl 12 rfl) ?_
  refine mo_call (x := x) (As := [.int (e0), .int (nI a), .int (nI c0)]) (rest := []) (st1 := [.int (nI (relN (mk w r0) a c0))]) C0 (op_relation ha hc (fun z => h2 z.symm) hE) hW (fun rm x1 x2 x3 x4 => cwV 3 C0.1.2.2.2.2 gL_isOrder_X3_relation rfl x1 x2 (by decide +kernel) ⟨by show _ ≤ 8; omega, by show _ ≤ 190; omega⟩) hS (fun _ h => h) rfl rfl rfl hl.1 (Nat.le_of_ble_eq_true rfl) dL_isOrder_309 ⟨Nat.le_of_ble_eq_true rfl, Nat.le_of_ble_eq_true rfl⟩ (fun H1 locs1 hW hF hS1 => ?_)
  clear hS
  have hS := hS1
  clear hS1 hF
  refine lv_iconst (v := nI 2) hx hb dL_isOrder_312 (by decide) ?_
  refine mr_leN (x := relN (mk w r0) a c0) (y := 2) (tgt := 318) C0 dL_isOrder_313 (by decide) (by have := rel_le (mk w r0) a c0; omega) (by decide) (fun c313 => ?_) (fun c313 => absurd c313 (by omega))
  clear c313
  refine lv_iinc (k := 12) (v := nI (c0 + 1)) (lv' := [(11, .int (nI (c0 + 1))), (12, .int (nI (relN (mk w r0) b c0))), (0, .ref x), (1, .int (e0)), (2, .int (nI p2)), (3, .int (nI p3)), (4, .int (nI p4)), (5, .int (nI a)), (6, .int (nI f6)), (7, .int (nI b)), (8, .int (nI ia)), (9, .int (nI ib)), (10, .int (nI bo))]) hx hb dL_isOrder_318 hl rfl (by rw [show Int32.ofInt 1 = nI 1 from by decide, nI_add]) (by decide) rfl (fun ls hl => ?_)
  refine lv_goto (tgt := 233) hx hb dL_isOrder_321 (by decide) ?_
  exact kk _ _ _ hW hS (lv_sub hl [2, 3, 4, 5, 6, 7, 8, 9, 10, 11, 12, 0] rfl)
set_option maxHeartbeats 4000000 in
set_option maxRecDepth 100000 in
theorem io_c {p : Program} {l : Launch} {e : Env} {R : Room} {s : State} {m : MethodId} {args : Array Value} {below : List Frame} {meth : Method} {c : Code} {Qq : State → Prop} {D : va_G} {T : Nat → ClassId} {H0 : Heap} {x n t : Nat} {w : Nat → Int32} {P Q : Nat → Nat → Int32} {kp : Nat → Bool} {a b p2 p3 p4 f6 ia ib bo : Nat} {e0 : Int32} {r0 : Nat} (C0 : Cx p s m args c cL_isOrder 13 wsL_isOrder RL D T) (hR : R = { frames := 8, cells := 0, slots := 0, locals := 190 }) (hG : Good w t) (hE : EpOk w e0 r0) (ha : a < 8) (hb8 : b < 8) (hia : 0 < ia ∧ ia < 3) (hab : (clo (mk w r0) a).testBit b = true)
    (kk : ∀ (H1 : Heap) (locs1 : List Loc) (ls1 : Array Slot), Wo D T x t (n, w, P, Q, kp) H1 → va_S (Rg x) H0 H1 locs1 → lv_has ls1 13 [(0, .ref x), (1, .int (e0)), (2, .int (nI p2)), (3, .int (nI p3)), (4, .int (nI p4)), (5, .int (nI a)), (6, .int (nI f6)), (7, .int (nI b))] → W p l e R s m args below meth c H1 locs1 0 0 Qq (F0 m 324 ls1 [])) :
    ∀ (r c0 : Nat) (H : Heap) (locs : List Loc) (ls : Array Slot), c0 + r = 8 → Wo D T x t (n, w, P, Q, kp) H → va_S (Rg x) H0 H locs → lv_has ls 13 [(0, .ref x), (1, .int (e0)), (2, .int (nI p2)), (3, .int (nI p3)), (4, .int (nI p4)), (5, .int (nI a)), (6, .int (nI f6)), (7, .int (nI b)), (8, .int (nI ia)), (9, .int (nI ib)), (10, .int (nI bo)), (11, .int (nI c0))] → W p l e R s m args below meth c H locs 0 0 Qq (F0 m 233 ls []) := by
  have hx := C0.1.1
  have hb := C0.1.2.1
  subst hR
  intro r
  induction r with
  | zero =>
    intro c0 H locs ls hk hW hS hl
    have e : c0 = 8 := by omega
    subst e
    refine lv_iload hx hb dL_isOrder_233 (lv_at hl 11 rfl) ?_
    refine lv_bipush (v := nI 8) hx hb dL_isOrder_235 (by decide) ?_
    refine mr_geN (x := 8) (y := 8) (tgt := 324) C0 dL_isOrder_237 (by decide) (by omega) (by omega) (fun c => ?_) (fun c => absurd c (by omega))
    exact kk _ _ _ hW hS (lv_sub hl [0, 1, 2, 3, 4, 5, 6, 7] rfl)
  | succ r ih =>
    intro c0 H locs ls hk hW hS hl
    have hc : c0 < 8 := by omega
    have go : ∀ (H1 : Heap) (locs1 : List Loc) (ls1 : Array Slot), Wo D T x t (n, w, P, Q, kp) H1 → va_S (Rg x) H0 H1 locs1 → lv_has ls1 13 [(0, .ref x), (1, .int (e0)), (2, .int (nI p2)), (3, .int (nI p3)), (4, .int (nI p4)), (5, .int (nI a)), (6, .int (nI f6)), (7, .int (nI b)), (8, .int (nI ia)), (9, .int (nI ib)), (10, .int (nI bo)), (11, .int (nI ((c0 + 1))))] → W p l e { frames := 8, cells := 0, slots := 0, locals := 190 } s m args below meth c H1 locs1 0 0 Qq (F0 m 233 ls1 []) := fun H1 locs1 ls1 hW1 hS1 hl1 => ih (c0 + 1) H1 locs1 ls1 (by omega) hW1 hS1 hl1
    by_cases h1 : c0 = b
    · exact io_c1 C0 rfl hG hE ha hb8 hc hia h1 hW hS hl go
    by_cases h2 : c0 = a
    · exact io_c2 C0 rfl hG hE ha hb8 hc hia h1 h2 hW hS hl go
    by_cases h3 : relN (mk w r0) b c0 = 0
    · exact io_c3 C0 rfl hG hE ha hb8 hc hia h1 h2 h3 hW hS hl go
    by_cases h4 : 3 ≤ relN (mk w r0) b c0
    · exact io_c4 C0 rfl hG hE ha hb8 hc hia h1 h2 h4 hW hS hl go
    have h5 : 0 < relN (mk w r0) b c0 ∧ relN (mk w r0) b c0 < 3 := by omega
    exact io_c5 C0 rfl hG hE ha hb8 hc hia h1 h2 h5 (rel_iff.mpr (clo_trans _ a b c0 hb8 hab (rel_iff.mp h5))) hW hS hl go
set_option maxHeartbeats 4000000 in
set_option maxRecDepth 100000 in
theorem io_6y {p : Program} {l : Launch} {e : Env} {R : Room} {s : State} {m : MethodId} {args : Array Value} {below : List Frame} {meth : Method} {c : Code} {Qq : State → Prop} {D : va_G} {T : Nat → ClassId} {H0 : Heap} {x n t : Nat} {w : Nat → Int32} {P Q : Nat → Nat → Int32} {kp : Nat → Bool} {a b p2 p3 p4 f6 ia ib bo : Nat} {H : Heap} {locs : List Loc} {ls : Array Slot} {e0 : Int32} {r0 : Nat} (C0 : Cx p s m args c cL_isOrder 13 wsL_isOrder RL D T) (hR : R = { frames := 8, cells := 0, slots := 0, locals := 190 }) (hG : Good w t) (hE : EpOk w e0 r0) (ha : a < 8) (hb8 : b < 8) (hia : ia ≤ 4) (hib : ib ≤ 4) (hW : Wo D T x t (n, w, P, Q, kp) H) (hS : va_S (Rg x) H0 H locs) (hl : lv_has ls 13 [(0, .ref x), (1, .int (e0)), (2, .int (nI p2)), (3, .int (nI p3)), (4, .int (nI p4)), (5, .int (nI a)), (6, .int (nI f6)), (7, .int (nI b)), (8, .int (nI ia)), (9, .int (nI ib)), (10, .int (nI bo))])
    (kk : ∀ (H1 : Heap) (locs1 : List Loc) (ls1 : Array Slot), Wo D T x t (n, w, P, Q, kp) H1 → va_S (Rg x) H0 H1 locs1 → lv_has ls1 13 [(0, .ref x), (1, .int (e0)), (2, .int (nI p2)), (3, .int (nI p3)), (4, .int (nI p4)), (5, .int (nI a)), (6, .int (nI f6)), (7, .int (nI b)), (8, .int (nI ia)), (9, .int (nI ib)), (10, .int (nI bo)), (11, .int (nI 0))] → W p l e R s m args below meth c H1 locs1 0 0 Qq (F0 m 233 ls1 [])) : W p l e R s m args below meth c H locs 0 0 Qq (F0 m 230 ls []) := by
  have hx := C0.1.1
  have hb := C0.1.2.1
  subst hR
  refine lv_iconst (v := nI 0) hx hb dL_isOrder_230 (by decide) ?_
  refine lv_istore (lv' := [(11, .int (nI 0)), (0, .ref x), (1, .int (e0)), (2, .int (nI p2)), (3, .int (nI p3)), (4, .int (nI p4)), (5, .int (nI a)), (6, .int (nI f6)), (7, .int (nI b)), (8, .int (nI ia)), (9, .int (nI ib)), (10, .int (nI bo))]) hx hb dL_isOrder_231 hl (by decide) rfl (fun ls hl => ?_)
  exact kk _ _ _ hW hS (lv_sub hl [1, 2, 3, 4, 5, 6, 7, 8, 9, 10, 11, 0] rfl)
set_option maxHeartbeats 4000000 in
set_option maxRecDepth 100000 in
theorem io_7 {p : Program} {l : Launch} {e : Env} {R : Room} {s : State} {m : MethodId} {args : Array Value} {below : List Frame} {meth : Method} {c : Code} {Qq : State → Prop} {D : va_G} {T : Nat → ClassId} {H0 : Heap} {x n t : Nat} {w : Nat → Int32} {P Q : Nat → Nat → Int32} {kp : Nat → Bool} {a b p2 p3 p4 f6 : Nat} {H : Heap} {locs : List Loc} {ls : Array Slot} {e0 : Int32} {r0 : Nat} (C0 : Cx p s m args c cL_isOrder 13 wsL_isOrder RL D T) (hR : R = { frames := 8, cells := 0, slots := 0, locals := 190 }) (hG : Good w t) (hE : EpOk w e0 r0) (ha : a < 8) (hW : Wo D T x t (n, w, P, Q, kp) H) (hS : va_S (Rg x) H0 H locs) (hl : lv_has ls 13 [(0, .ref x), (1, .int (e0)), (2, .int (nI p2)), (3, .int (nI p3)), (4, .int (nI p4)), (5, .int (nI a)), (6, .int (nI f6)), (7, .int (nI b))])
    (kk : ∀ (H1 : Heap) (locs1 : List Loc) (ls1 : Array Slot), Wo D T x t (n, w, P, Q, kp) H1 → va_S (Rg x) H0 H1 locs1 → lv_has ls1 13 [(0, .ref x), (1, .int (e0)), (2, .int (nI p2)), (3, .int (nI p3)), (4, .int (nI p4)), (5, .int (nI a)), (6, .int (nI f6)), (7, .int (nI ((b + 1))))] → W p l e R s m args below meth c H1 locs1 0 0 Qq (F0 m 54 ls1 [])) : W p l e R s m args below meth c H locs 0 0 Qq (F0 m 324 ls []) := by
  have hx := C0.1.1
  have hb := C0.1.2.1
  subst hR
  refine lv_iinc (k := 7) (v := nI (b + 1)) (lv' := [(7, .int (nI (b + 1))), (0, .ref x), (1, .int (e0)), (2, .int (nI p2)), (3, .int (nI p3)), (4, .int (nI p4)), (5, .int (nI a)), (6, .int (nI f6))]) hx hb dL_isOrder_324 hl rfl (by rw [show Int32.ofInt 1 = nI 1 from by decide, nI_add]) (by decide) rfl (fun ls hl => ?_)
  refine lv_goto (tgt := 54) hx hb dL_isOrder_327 (by decide) ?_
  exact kk _ _ _ hW hS (lv_sub hl [1, 2, 3, 4, 5, 6, 7, 0] rfl)
set_option maxHeartbeats 4000000 in
set_option maxRecDepth 100000 in
theorem io_0 {p : Program} {l : Launch} {e : Env} {R : Room} {s : State} {m : MethodId} {args : Array Value} {below : List Frame} {meth : Method} {c : Code} {Qq : State → Prop} {D : va_G} {T : Nat → ClassId} {H0 : Heap} {x n t : Nat} {w : Nat → Int32} {P Q : Nat → Nat → Int32} {kp : Nat → Bool} {a b p2 p3 p4 f6 : Nat} {H : Heap} {locs : List Loc} {ls : Array Slot} {e0 : Int32} {r0 : Nat} (C0 : Cx p s m args c cL_isOrder 13 wsL_isOrder RL D T) (hR : R = { frames := 8, cells := 0, slots := 0, locals := 190 }) (hG : Good w t) (hE : EpOk w e0 r0) (ha : a < 8) (hb8 : b < 8) (hW : Wo D T x t (n, w, P, Q, kp) H) (hS : va_S (Rg x) H0 H locs) (hl : lv_has ls 13 [(0, .ref x), (1, .int (e0)), (2, .int (nI p2)), (3, .int (nI p3)), (4, .int (nI p4)), (5, .int (nI a)), (6, .int (nI f6)), (7, .int (nI b))])
    (kk : ∀ (H1 : Heap) (locs1 : List Loc) (ls1 : Array Slot), Wo D T x t (n, w, P, Q, kp) H1 → va_S (Rg x) H0 H1 locs1 → lv_has ls1 13 [(0, .ref x), (1, .int (e0)), (2, .int (nI p2)), (3, .int (nI p3)), (4, .int (nI p4)), (5, .int (nI a)), (6, .int (nI f6)), (7, .int (nI b))] → W p l e R s m args below meth c H1 locs1 0 0 Qq (F0 m 61 ls1 [])) : W p l e R s m args below meth c H locs 0 0 Qq (F0 m 54 ls []) := by
  have hx := C0.1.1
  have hb := C0.1.2.1
  subst hR
  refine lv_iload hx hb dL_isOrder_54 (lv_at hl 7 rfl) ?_
  refine lv_bipush (v := nI 8) hx hb dL_isOrder_56 (by decide) ?_
  refine mr_geN (x := b) (y := 8) (tgt := 330) C0 dL_isOrder_58 (by decide) (by omega) (by omega) (fun c58 => absurd c58 (by omega)) (fun c58 => ?_)
  clear c58
  exact kk _ _ _ hW hS (lv_sub hl [0, 1, 2, 3, 4, 5, 6, 7] rfl)
set_option maxHeartbeats 4000000 in
set_option maxRecDepth 100000 in
theorem io_b {p : Program} {l : Launch} {e : Env} {R : Room} {s : State} {m : MethodId} {args : Array Value} {below : List Frame} {meth : Method} {c : Code} {Qq : State → Prop} {D : va_G} {T : Nat → ClassId} {H0 : Heap} {x n t : Nat} {w : Nat → Int32} {P Q : Nat → Nat → Int32} {kp : Nat → Bool} {a p3 p4 n0 : Nat} {e0 : Int32} {r0 : Nat} (C0 : Cx p s m args c cL_isOrder 13 wsL_isOrder RL D T) (hR : R = { frames := 8, cells := 0, slots := 0, locals := 190 }) (hG : Good w t) (hE : EpOk w e0 r0) (ha : a < 8)
    (kk : ∀ (H1 : Heap) (locs1 : List Loc) (ls1 : Array Slot), Wo D T x t (n, w, P, Q, kp) H1 → va_S (Rg x) H0 H1 locs1 → lv_has ls1 13 [(0, .ref x), (1, .int (e0)), (2, .int (nI (prB (mk w r0) w a n0 8))), (3, .int (nI p3)), (4, .int (nI p4)), (5, .int (nI a)), (6, .int (nI (fsB (mk w r0) w a 8))), (7, .int (nI 8))] → W p l e R s m args below meth c H1 locs1 0 0 Qq (F0 m 330 ls1 [])) :
    ∀ (r b : Nat) (H : Heap) (locs : List Loc) (ls : Array Slot), b + r = 8 → Wo D T x t (n, w, P, Q, kp) H → va_S (Rg x) H0 H locs → lv_has ls 13 [(0, .ref x), (1, .int (e0)), (2, .int (nI (prB (mk w r0) w a n0 b))), (3, .int (nI p3)), (4, .int (nI p4)), (5, .int (nI a)), (6, .int (nI (fsB (mk w r0) w a b))), (7, .int (nI b))] → W p l e R s m args below meth c H locs 0 0 Qq (F0 m 54 ls []) := by
  have hx := C0.1.1
  have hb := C0.1.2.1
  subst hR
  have hA : Acy (mk w r0) := (EpOk_ord hG hE).2
  intro r
  induction r with
  | zero =>
    intro b H locs ls hk hW hS hl
    have e : b = 8 := by omega
    subst e
    refine lv_iload hx hb dL_isOrder_54 (lv_at hl 7 rfl) ?_
    refine lv_bipush (v := nI 8) hx hb dL_isOrder_56 (by decide) ?_
    refine mr_geN (x := 8) (y := 8) (tgt := 330) C0 dL_isOrder_58 (by decide) (by omega) (by omega) (fun c => ?_) (fun c => absurd c (by omega))
    exact kk _ _ _ hW hS hl
  | succ r ih =>
    intro b H locs ls hk hW hS hl
    have hb8 : b < 8 := by omega
    have i4 := rA_le (mk w r0) a b
    have i4' := rA_le (mk w r0) b a
    have f1 := fsB_le (mk w r0) w a b
    have b1 := bo_le w a b
    obtain ⟨bk1, bk2, bk3⟩ := rel_back hA ha hb8
    -- the last stage: from 324 on
    have s7 : ∀ (H1 : Heap) (locs1 : List Loc) (ls1 : Array Slot), Wo D T x t (n, w, P, Q, kp) H1 → va_S (Rg x) H0 H1 locs1 → lv_has ls1 13 [(0, .ref x), (1, .int (e0)), (2, .int (nI (prB (mk w r0) w a n0 (b + 1)))), (3, .int (nI p3)), (4, .int (nI p4)), (5, .int (nI a)), (6, .int (nI (fsB (mk w r0) w a (b + 1)))), (7, .int (nI b))] → W p l e { frames := 8, cells := 0, slots := 0, locals := 190 } s m args below meth c H1 locs1 0 0 Qq (F0 m 324 ls1 []) := fun H1 locs1 ls1 hW1 hS1 hl1 =>
      io_7 C0 rfl hG hE ha hW1 hS1 hl1 (fun H2 locs2 ls2 hW2 hS2 hl2 => ih (b + 1) H2 locs2 ls2 (by omega) hW2 hS2 hl2)
    have s6 : ∀ (H1 : Heap) (locs1 : List Loc) (ls1 : Array Slot), Wo D T x t (n, w, P, Q, kp) H1 → va_S (Rg x) H0 H1 locs1 → lv_has ls1 13 [(0, .ref x), (1, .int (e0)), (2, .int (nI (prB (mk w r0) w a n0 (b + 1)))), (3, .int (nI p3)), (4, .int (nI p4)), (5, .int (nI a)), (6, .int (nI (fsB (mk w r0) w a (b + 1)))), (7, .int (nI b)), (8, .int (nI (rA (mk w r0) a b))), (9, .int (nI (rA (mk w r0) b a))), (10, .int (nI (boN w a b)))] → W p l e { frames := 8, cells := 0, slots := 0, locals := 190 } s m args below meth c H1 locs1 0 0 Qq (F0 m 230 ls1 []) := fun H1 locs1 ls1 hW1 hS1 hl1 => by
      by_cases h1 : rA (mk w r0) a b = 0
      · exact io_6n C0 rfl hG hE ha hb8 i4 i4' h1 hW1 hS1 hl1 s7
      by_cases h2 : 3 ≤ rA (mk w r0) a b
      · exact io_6g C0 rfl hG hE ha hb8 i4 i4' h2 hW1 hS1 hl1 s7
      have hne : a ≠ b := fun z => h1 (rA_eq z)
      have h3 : 0 < rA (mk w r0) a b ∧ rA (mk w r0) a b < 3 := by omega
      refine io_6y C0 rfl hG hE ha hb8 i4 i4' hW1 hS1 hl1 (fun H2 locs2 ls2 hW2 hS2 hl2 => ?_)
      exact io_c C0 rfl hG hE ha hb8 h3 (rel_iff.mp (by rw [← rA_ne hne]; exact h3)) s7 8 0 H2 locs2 ls2 rfl hW2 hS2 hl2
    have s5 : ∀ (H1 : Heap) (locs1 : List Loc) (ls1 : Array Slot), Wo D T x t (n, w, P, Q, kp) H1 → va_S (Rg x) H0 H1 locs1 → lv_has ls1 13 [(0, .ref x), (1, .int (e0)), (2, .int (nI (prB (mk w r0) w a n0 (b + 1)))), (3, .int (nI p3)), (4, .int (nI p4)), (5, .int (nI a)), (6, .int (nI (fsB (mk w r0) w a b))), (7, .int (nI b)), (8, .int (nI (rA (mk w r0) a b))), (9, .int (nI (rA (mk w r0) b a))), (10, .int (nI (boN w a b)))] → W p l e { frames := 8, cells := 0, slots := 0, locals := 190 } s m args below meth c H1 locs1 0 0 Qq (F0 m 207 ls1 []) := fun H1 locs1 ls1 hW1 hS1 hl1 => by
      have e : fsB (mk w r0) w a (b + 1) = if fsB (mk w r0) w a b = 1 ∧ ¬ ((w a = nI 1 ∧ w b = nI 1) ∧ 2 < rA (mk w r0) a b) then 1 else 0 := rfl
      have hbo : boN w a b = if w a = nI 1 ∧ w b = nI 1 then 1 else 0 := rfl
      by_cases h1 : fsB (mk w r0) w a b = 0
      · exact io_5n C0 rfl hG hE ha hb8 i4 i4' b1 f1 h1 (by rw [e, if_neg (fun z => by omega)]) hW1 hS1 hl1 s6
      have h1' : fsB (mk w r0) w a b = 1 := by omega
      by_cases h2 : w a = nI 1 ∧ w b = nI 1
      · rw [if_pos h2] at hbo
        by_cases h3 : 2 < rA (mk w r0) a b
        · exact io_5g C0 rfl hG hE ha hb8 i4 i4' b1 f1 h1' hbo h3 (by rw [e, if_neg (fun z => z.2 ⟨h2, h3⟩)]) hW1 hS1 hl1 s6
        · exact io_5y C0 rfl hG hE ha hb8 i4 i4' b1 f1 h1' hbo (by omega) (by rw [e, if_pos ⟨h1', fun z => h3 z.2⟩]) hW1 hS1 hl1 s6
      · rw [if_neg h2] at hbo
        exact io_5b C0 rfl hG hE ha hb8 i4 i4' b1 f1 h1' hbo (by rw [e, if_pos ⟨h1', fun z => h2 z.1⟩]) hW1 hS1 hl1 s6
    have s4 : ∀ (H1 : Heap) (locs1 : List Loc) (ls1 : Array Slot), Wo D T x t (n, w, P, Q, kp) H1 → va_S (Rg x) H0 H1 locs1 → lv_has ls1 13 [(0, .ref x), (1, .int (e0)), (2, .int (nI (prB (mk w r0) w a n0 b))), (3, .int (nI p3)), (4, .int (nI p4)), (5, .int (nI a)), (6, .int (nI (fsB (mk w r0) w a b))), (7, .int (nI b)), (8, .int (nI (rA (mk w r0) a b))), (9, .int (nI (rA (mk w r0) b a))), (10, .int (nI (boN w a b)))] → W p l e { frames := 8, cells := 0, slots := 0, locals := 190 } s m args below meth c H1 locs1 0 0 Qq (F0 m 183 ls1 []) := fun H1 locs1 ls1 hW1 hS1 hl1 => by
      have e : prB (mk w r0) w a n0 (b + 1) = prB (mk w r0) w a n0 b + (if (w a = nI 1 ∧ w b = nI 1) ∧ 0 < rA (mk w r0) a b ∧ rA (mk w r0) a b < 3 then 1 else 0) := rfl
      have hbo : boN w a b = if w a = nI 1 ∧ w b = nI 1 then 1 else 0 := rfl
      by_cases h2 : w a = nI 1 ∧ w b = nI 1
      · rw [if_pos h2] at hbo
        by_cases h3 : rA (mk w r0) a b = 0
        · exact io_4z C0 rfl hG hE ha hb8 i4 i4' b1 hbo h3 (by rw [e, if_neg (fun z => by omega)]; rfl) hW1 hS1 hl1 s5
        by_cases h4 : 3 ≤ rA (mk w r0) a b
        · exact io_4g C0 rfl hG hE ha hb8 i4 i4' b1 hbo h4 (by rw [e, if_neg (fun z => by omega)]; rfl) hW1 hS1 hl1 s5
        have h5 : 0 < rA (mk w r0) a b ∧ rA (mk w r0) a b < 3 := by omega
        exact io_4y C0 rfl hG hE ha hb8 i4 i4' b1 hbo h5 (by rw [e, if_pos ⟨h2, h5⟩]) hW1 hS1 hl1 s5
      · rw [if_neg h2] at hbo
        exact io_4n C0 rfl hG hE ha hb8 i4 i4' b1 hbo (by rw [e, if_neg (fun z => h2 z.1)]; rfl) hW1 hS1 hl1 s5
    have s3 : ∀ (H1 : Heap) (locs1 : List Loc) (ls1 : Array Slot), Wo D T x t (n, w, P, Q, kp) H1 → va_S (Rg x) H0 H1 locs1 → lv_has ls1 13 [(0, .ref x), (1, .int (e0)), (2, .int (nI (prB (mk w r0) w a n0 b))), (3, .int (nI p3)), (4, .int (nI p4)), (5, .int (nI a)), (6, .int (nI (fsB (mk w r0) w a b))), (7, .int (nI b)), (8, .int (nI (rA (mk w r0) a b))), (9, .int (nI (rA (mk w r0) b a)))] → W p l e { frames := 8, cells := 0, slots := 0, locals := 190 } s m args below meth c H1 locs1 0 0 Qq (F0 m 154 ls1 []) := fun H1 locs1 ls1 hW1 hS1 hl1 => by
      by_cases h1 : w a = nI 1
      · by_cases h2 : w b = nI 1
        · exact io_3y C0 rfl hG hE ha hb8 i4 i4' h1 h2 hW1 hS1 hl1 s4
        · exact io_3b C0 rfl hG hE ha hb8 i4 i4' h1 h2 hW1 hS1 hl1 s4
      · exact io_3a C0 rfl hG hE ha hb8 i4 i4' h1 hW1 hS1 hl1 s4
    have s2 : ∀ (H1 : Heap) (locs1 : List Loc) (ls1 : Array Slot), Wo D T x t (n, w, P, Q, kp) H1 → va_S (Rg x) H0 H1 locs1 → lv_has ls1 13 [(0, .ref x), (1, .int (e0)), (2, .int (nI (prB (mk w r0) w a n0 b))), (3, .int (nI p3)), (4, .int (nI p4)), (5, .int (nI a)), (6, .int (nI (fsB (mk w r0) w a b))), (7, .int (nI b)), (8, .int (nI (rA (mk w r0) a b))), (9, .int (nI (rA (mk w r0) b a)))] → W p l e { frames := 8, cells := 0, slots := 0, locals := 190 } s m args below meth c H1 locs1 0 0 Qq (F0 m 105 ls1 []) := fun H1 locs1 ls1 hW1 hS1 hl1 => by
      by_cases hab : a = b
      · exact io_2e C0 rfl hG hE ha hb8 i4 i4' hab hW1 hS1 hl1 s3
      have e1 := rA_ne (N := (mk w r0)) hab
      have e2 := rA_ne (N := (mk w r0)) (fun z => hab z.symm : b ≠ a)
      by_cases h1 : rA (mk w r0) a b = 0
      · exact io_2z C0 rfl hG hE ha hb8 i4 i4' hab h1 (by rw [e2]; exact bk1 (by omega)) hW1 hS1 hl1 s3
      by_cases h2 : 3 ≤ rA (mk w r0) a b
      · exact io_2q C0 rfl hG hE ha hb8 i4 i4' hab h2 (by have := bk3 (by omega); omega) hW1 hS1 hl1 s3
      exact io_2p C0 rfl hG hE ha hb8 i4 i4' hab (by omega) (by have := bk2 (by omega) (by omega); omega) hW1 hS1 hl1 s3
    refine io_0 C0 rfl hG hE ha hb8 hW hS hl (fun H1 locs1 ls1 hW1 hS1 hl1 => ?_)
    by_cases hab : a = b
    · exact io_1e C0 rfl hG hE ha hb8 hab hW1 hS1 hl1 s2
    · exact io_1n C0 rfl hG hE ha hb8 hab hW1 hS1 hl1 s2
set_option maxHeartbeats 4000000 in
set_option maxRecDepth 100000 in
theorem io_a1 {p : Program} {l : Launch} {e : Env} {R : Room} {s : State} {m : MethodId} {args : Array Value} {below : List Frame} {meth : Method} {c : Code} {Qq : State → Prop} {D : va_G} {T : Nat → ClassId} {H0 : Heap} {x n t : Nat} {w : Nat → Int32} {P Q : Nat → Nat → Int32} {kp : Nat → Bool} {a : Nat} {H : Heap} {locs : List Loc} {ls : Array Slot} {e0 : Int32} {r0 : Nat} (C0 : Cx p s m args c cL_isOrder 13 wsL_isOrder RL D T) (hR : R = { frames := 8, cells := 0, slots := 0, locals := 190 }) (hG : Good w t) (hE : EpOk w e0 r0) (ha : a < 8) (h1 : w a = nI 1) (hW : Wo D T x t (n, w, P, Q, kp) H) (hS : va_S (Rg x) H0 H locs) (hl : lv_has ls 13 [(0, .ref x), (1, .int (e0)), (2, .int (nI (prA (mk w r0) w a))), (3, .int (nI (fsA (mk w r0) w a))), (4, .int (nI (opA w a))), (5, .int (nI a))])
    (kk : ∀ (H1 : Heap) (locs1 : List Loc) (ls1 : Array Slot), Wo D T x t (n, w, P, Q, kp) H1 → va_S (Rg x) H0 H1 locs1 → lv_has ls1 13 [(0, .ref x), (1, .int (e0)), (2, .int (nI (prA (mk w r0) w a))), (3, .int (nI (fsA (mk w r0) w a))), (4, .int (nI (opA w (a + 1)))), (5, .int (nI a)), (6, .int (nI (fo w a))), (7, .int (nI 0))] → W p l e R s m args below meth c H1 locs1 0 0 Qq (F0 m 54 ls1 [])) : W p l e R s m args below meth c H locs 0 0 Qq (F0 m 10 ls []) := by
  have hx := C0.1.1
  have hb := C0.1.2.1
  subst hR
  refine lv_iload hx hb dL_isOrder_10 (lv_at hl 5 rfl) ?_
  refine lv_bipush (v := nI 8) hx hb dL_isOrder_12 (by decide) ?_
  refine mr_geN (x := a) (y := 8) (tgt := 349) C0 dL_isOrder_14 (by decide) (by omega) (by omega) (fun c14 => absurd c14 (by omega)) (fun c14 => ?_)
  clear c14
  refine lv_aload_n hx hb dL_isOrder_17 rfl (lv_at hl 0 rfl) ?_
  refine lv_iload hx hb dL_isOrder_18 (lv_at hl 5 rfl) ?_
  refine lv_iconst (v := nI 0) hx hb dL_isOrder_20 (by decide) ?_
  refine mo_call (x := x) (As := [.int (nI a), .int (nI 0)]) (rest := []) (st1 := [.int (fStrm w t a 0)]) C0 (op_stream ha (by decide)) hW (fun rm x1 x2 x3 x4 => cwV 2 C0.1.2.2.2.2 gL_isOrder_X3_stream rfl x1 x2 (by decide +kernel) ⟨by show _ ≤ 8; omega, by show _ ≤ 190; omega⟩) hS (fun _ h => h) rfl rfl rfl hl.1 (Nat.le_of_ble_eq_true rfl) dL_isOrder_21 ⟨Nat.le_of_ble_eq_true rfl, Nat.le_of_ble_eq_true rfl⟩ (fun H1 locs1 hW hF hS1 => ?_)
  clear hS
  have hS := hS1
  clear hS1 hF
  refine mr_top (y := nI 1) ((fStrm_0 w t a).trans (h1)) ?_
  refine lv_iconst (v := nI 1) hx hb dL_isOrder_24 (by decide) ?_
  refine lv_icmp_ne (tgt := 32) hx hb dL_isOrder_25 (by decide) (fun c25 => absurd rfl c25) (fun c25 => ?_)
  clear c25
  refine lv_iconst (v := nI 1) hx hb dL_isOrder_28 (by decide) ?_
  refine mr_top (y := nI (fo w a)) (congrArg nI (if_pos h1).symm) ?_
  refine lv_goto (tgt := 33) hx hb dL_isOrder_29 (by decide) ?_
  refine lv_istore (lv' := [(6, .int (nI (fo w a))), (0, .ref x), (1, .int (e0)), (2, .int (nI (prA (mk w r0) w a))), (3, .int (nI (fsA (mk w r0) w a))), (4, .int (nI (opA w a))), (5, .int (nI a))]) hx hb dL_isOrder_33 hl (by decide) rfl (fun ls hl => ?_)
  refine lv_iload hx hb dL_isOrder_35 (lv_at hl 0 rfl) ?_
  refine mr_eq0N (x := fo w a) (tgt := 47) C0 dL_isOrder_37 (by decide) (by have := fo_le w a; omega) (fun c37 => absurd c37 (by rw [show fo w a = 1 from if_pos h1]; decide)) (fun c37 => ?_)
  clear c37
  refine lv_iload hx hb dL_isOrder_40 (lv_at hl 5 rfl) ?_
  refine lv_iconst (v := nI 1) hx hb dL_isOrder_42 (by decide) ?_
  refine mr_iaddN (z := opA w (a + 1)) C0 (by show opA w a + 1 = opA w a + fo w a; rw [show fo w a = 1 from if_pos h1]) dL_isOrder_43 ?_
  refine lv_goto (tgt := 49) hx hb dL_isOrder_44 (by decide) ?_
  refine lv_istore (lv' := [(4, .int (nI (opA w (a + 1)))), (6, .int (nI (fo w a))), (0, .ref x), (1, .int (e0)), (2, .int (nI (prA (mk w r0) w a))), (3, .int (nI (fsA (mk w r0) w a))), (5, .int (nI a))]) hx hb dL_isOrder_49 hl (by decide) rfl (fun ls hl => ?_)
  refine lv_iconst (v := nI 0) hx hb dL_isOrder_51 (by decide) ?_
  refine lv_istore (lv' := [(7, .int (nI 0)), (4, .int (nI (opA w (a + 1)))), (6, .int (nI (fo w a))), (0, .ref x), (1, .int (e0)), (2, .int (nI (prA (mk w r0) w a))), (3, .int (nI (fsA (mk w r0) w a))), (5, .int (nI a))]) hx hb dL_isOrder_52 hl (by decide) rfl (fun ls hl => ?_)
  exact kk _ _ _ hW hS (lv_sub hl [3, 4, 5, 6, 1, 7, 2, 0] rfl)
set_option maxHeartbeats 4000000 in
set_option maxRecDepth 100000 in
theorem io_a0 {p : Program} {l : Launch} {e : Env} {R : Room} {s : State} {m : MethodId} {args : Array Value} {below : List Frame} {meth : Method} {c : Code} {Qq : State → Prop} {D : va_G} {T : Nat → ClassId} {H0 : Heap} {x n t : Nat} {w : Nat → Int32} {P Q : Nat → Nat → Int32} {kp : Nat → Bool} {a : Nat} {H : Heap} {locs : List Loc} {ls : Array Slot} {e0 : Int32} {r0 : Nat} (C0 : Cx p s m args c cL_isOrder 13 wsL_isOrder RL D T) (hR : R = { frames := 8, cells := 0, slots := 0, locals := 190 }) (hG : Good w t) (hE : EpOk w e0 r0) (ha : a < 8) (h1 : ¬ w a = nI 1) (hW : Wo D T x t (n, w, P, Q, kp) H) (hS : va_S (Rg x) H0 H locs) (hl : lv_has ls 13 [(0, .ref x), (1, .int (e0)), (2, .int (nI (prA (mk w r0) w a))), (3, .int (nI (fsA (mk w r0) w a))), (4, .int (nI (opA w a))), (5, .int (nI a))])
    (kk : ∀ (H1 : Heap) (locs1 : List Loc) (ls1 : Array Slot), Wo D T x t (n, w, P, Q, kp) H1 → va_S (Rg x) H0 H1 locs1 → lv_has ls1 13 [(0, .ref x), (1, .int (e0)), (2, .int (nI (prA (mk w r0) w a))), (3, .int (nI (fsA (mk w r0) w a))), (4, .int (nI (opA w (a + 1)))), (5, .int (nI a)), (6, .int (nI (fo w a))), (7, .int (nI 0))] → W p l e R s m args below meth c H1 locs1 0 0 Qq (F0 m 54 ls1 [])) : W p l e R s m args below meth c H locs 0 0 Qq (F0 m 10 ls []) := by
  have hx := C0.1.1
  have hb := C0.1.2.1
  subst hR
  refine lv_iload hx hb dL_isOrder_10 (lv_at hl 5 rfl) ?_
  refine lv_bipush (v := nI 8) hx hb dL_isOrder_12 (by decide) ?_
  refine mr_geN (x := a) (y := 8) (tgt := 349) C0 dL_isOrder_14 (by decide) (by omega) (by omega) (fun c14 => absurd c14 (by omega)) (fun c14 => ?_)
  clear c14
  refine lv_aload_n hx hb dL_isOrder_17 rfl (lv_at hl 0 rfl) ?_
  refine lv_iload hx hb dL_isOrder_18 (lv_at hl 5 rfl) ?_
  refine lv_iconst (v := nI 0) hx hb dL_isOrder_20 (by decide) ?_
  refine mo_call (x := x) (As := [.int (nI a), .int (nI 0)]) (rest := []) (st1 := [.int (fStrm w t a 0)]) C0 (op_stream ha (by decide)) hW (fun rm x1 x2 x3 x4 => cwV 2 C0.1.2.2.2.2 gL_isOrder_X3_stream rfl x1 x2 (by decide +kernel) ⟨by show _ ≤ 8; omega, by show _ ≤ 190; omega⟩) hS (fun _ h => h) rfl rfl rfl hl.1 (Nat.le_of_ble_eq_true rfl) dL_isOrder_21 ⟨Nat.le_of_ble_eq_true rfl, Nat.le_of_ble_eq_true rfl⟩ (fun H1 locs1 hW hF hS1 => ?_)
  clear hS
  have hS := hS1
  clear hS1 hF
  refine mr_top (y := nI 0) ((fStrm_0 w t a).trans (opn_01 hG ha h1)) ?_
  refine lv_iconst (v := nI 1) hx hb dL_isOrder_24 (by decide) ?_
  refine lv_icmp_ne (tgt := 32) hx hb dL_isOrder_25 (by decide) (fun c25 => ?_) (fun c25 => absurd c25 (by decide))
  clear c25
  refine lv_iconst (v := nI 0) hx hb dL_isOrder_32 (by decide) ?_
  refine mr_top (y := nI (fo w a)) (congrArg nI (if_neg h1).symm) ?_
  refine lv_istore (lv' := [(6, .int (nI (fo w a))), (0, .ref x), (1, .int (e0)), (2, .int (nI (prA (mk w r0) w a))), (3, .int (nI (fsA (mk w r0) w a))), (4, .int (nI (opA w a))), (5, .int (nI a))]) hx hb dL_isOrder_33 hl (by decide) rfl (fun ls hl => ?_)
  refine lv_iload hx hb dL_isOrder_35 (lv_at hl 0 rfl) ?_
  refine mr_eq0N (x := fo w a) (tgt := 47) C0 dL_isOrder_37 (by decide) (by have := fo_le w a; omega) (fun c37 => ?_) (fun c37 => absurd c37 (by rw [show fo w a = 0 from if_neg h1]; decide))
  clear c37
  refine lv_iload hx hb dL_isOrder_47 (lv_at hl 5 rfl) ?_
  refine mr_top (y := nI (opA w (a + 1))) (congrArg nI (show opA w a = opA w a + fo w a by rw [show fo w a = 0 from if_neg h1]; rfl)) ?_
  refine lv_istore (lv' := [(4, .int (nI (opA w (a + 1)))), (6, .int (nI (fo w a))), (0, .ref x), (1, .int (e0)), (2, .int (nI (prA (mk w r0) w a))), (3, .int (nI (fsA (mk w r0) w a))), (5, .int (nI a))]) hx hb dL_isOrder_49 hl (by decide) rfl (fun ls hl => ?_)
  refine lv_iconst (v := nI 0) hx hb dL_isOrder_51 (by decide) ?_
  refine lv_istore (lv' := [(7, .int (nI 0)), (4, .int (nI (opA w (a + 1)))), (6, .int (nI (fo w a))), (0, .ref x), (1, .int (e0)), (2, .int (nI (prA (mk w r0) w a))), (3, .int (nI (fsA (mk w r0) w a))), (5, .int (nI a))]) hx hb dL_isOrder_52 hl (by decide) rfl (fun ls hl => ?_)
  exact kk _ _ _ hW hS (lv_sub hl [3, 4, 5, 6, 1, 7, 2, 0] rfl)
set_option maxHeartbeats 4000000 in
set_option maxRecDepth 100000 in
theorem io_a3 {p : Program} {l : Launch} {e : Env} {R : Room} {s : State} {m : MethodId} {args : Array Value} {below : List Frame} {meth : Method} {c : Code} {Qq : State → Prop} {D : va_G} {T : Nat → ClassId} {H0 : Heap} {x n t : Nat} {w : Nat → Int32} {P Q : Nat → Nat → Int32} {kp : Nat → Bool} {a : Nat} {H : Heap} {locs : List Loc} {ls : Array Slot} {e0 : Int32} {r0 : Nat} (C0 : Cx p s m args c cL_isOrder 13 wsL_isOrder RL D T) (hR : R = { frames := 8, cells := 0, slots := 0, locals := 190 }) (hG : Good w t) (hE : EpOk w e0 r0) (ha : a < 8) (h1 : fsB (mk w r0) w a 8 = 1) (hW : Wo D T x t (n, w, P, Q, kp) H) (hS : va_S (Rg x) H0 H locs) (hl : lv_has ls 13 [(0, .ref x), (1, .int (e0)), (2, .int (nI (prA (mk w r0) w (a + 1)))), (3, .int (nI (fsA (mk w r0) w a))), (4, .int (nI (opA w (a + 1)))), (5, .int (nI a)), (6, .int (nI (fsB (mk w r0) w a 8))), (7, .int (nI 8))])
    (kk : ∀ (H1 : Heap) (locs1 : List Loc) (ls1 : Array Slot), Wo D T x t (n, w, P, Q, kp) H1 → va_S (Rg x) H0 H1 locs1 → lv_has ls1 13 [(0, .ref x), (1, .int (e0)), (2, .int (nI (prA (mk w r0) w (a + 1)))), (3, .int (nI (fsA (mk w r0) w (a + 1)))), (4, .int (nI (opA w (a + 1)))), (5, .int (nI ((a + 1))))] → W p l e R s m args below meth c H1 locs1 0 0 Qq (F0 m 10 ls1 [])) : W p l e R s m args below meth c H locs 0 0 Qq (F0 m 330 ls []) := by
  have hx := C0.1.1
  have hb := C0.1.2.1
  subst hR
  refine lv_iload hx hb dL_isOrder_330 (lv_at hl 6 rfl) ?_
  refine mr_eq0N (x := fsB (mk w r0) w a 8) (tgt := 341) C0 dL_isOrder_332 (by decide) (by omega) (fun c332 => absurd c332 (by omega)) (fun c332 => ?_)
  clear c332
  refine lv_iload_n hx hb dL_isOrder_335 rfl (lv_at hl 3 rfl) ?_
  refine lv_iconst (v := nI 1) hx hb dL_isOrder_336 (by decide) ?_
  refine mr_iaddN (z := fsA (mk w r0) w (a + 1)) C0 (by show fsA (mk w r0) w a + 1 = fsA (mk w r0) w a + fsB (mk w r0) w a 8; rw [h1]) dL_isOrder_337 ?_
  refine lv_goto (tgt := 342) hx hb dL_isOrder_338 (by decide) ?_
  refine lv_istore_n (lv' := [(3, .int (nI (fsA (mk w r0) w (a + 1)))), (0, .ref x), (1, .int (e0)), (2, .int (nI (prA (mk w r0) w (a + 1)))), (4, .int (nI (opA w (a + 1)))), (5, .int (nI a)), (6, .int (nI (fsB (mk w r0) w a 8))), (7, .int (nI 8))]) hx hb dL_isOrder_342 rfl hl (by decide) rfl (fun ls hl => ?_)
  refine lv_iinc (k := 5) (v := nI (a + 1)) (lv' := [(5, .int (nI (a + 1))), (3, .int (nI (fsA (mk w r0) w (a + 1)))), (0, .ref x), (1, .int (e0)), (2, .int (nI (prA (mk w r0) w (a + 1)))), (4, .int (nI (opA w (a + 1)))), (6, .int (nI (fsB (mk w r0) w a 8))), (7, .int (nI 8))]) hx hb dL_isOrder_343 hl rfl (by rw [show Int32.ofInt 1 = nI 1 from by decide, nI_add]) (by decide) rfl (fun ls hl => ?_)
  refine lv_goto (tgt := 10) hx hb dL_isOrder_346 (by decide) ?_
  exact kk _ _ _ hW hS (lv_sub hl [2, 3, 4, 1, 5, 0] rfl)
set_option maxHeartbeats 4000000 in
set_option maxRecDepth 100000 in
theorem io_a2 {p : Program} {l : Launch} {e : Env} {R : Room} {s : State} {m : MethodId} {args : Array Value} {below : List Frame} {meth : Method} {c : Code} {Qq : State → Prop} {D : va_G} {T : Nat → ClassId} {H0 : Heap} {x n t : Nat} {w : Nat → Int32} {P Q : Nat → Nat → Int32} {kp : Nat → Bool} {a : Nat} {H : Heap} {locs : List Loc} {ls : Array Slot} {e0 : Int32} {r0 : Nat} (C0 : Cx p s m args c cL_isOrder 13 wsL_isOrder RL D T) (hR : R = { frames := 8, cells := 0, slots := 0, locals := 190 }) (hG : Good w t) (hE : EpOk w e0 r0) (ha : a < 8) (h1 : fsB (mk w r0) w a 8 = 0) (hW : Wo D T x t (n, w, P, Q, kp) H) (hS : va_S (Rg x) H0 H locs) (hl : lv_has ls 13 [(0, .ref x), (1, .int (e0)), (2, .int (nI (prA (mk w r0) w (a + 1)))), (3, .int (nI (fsA (mk w r0) w a))), (4, .int (nI (opA w (a + 1)))), (5, .int (nI a)), (6, .int (nI (fsB (mk w r0) w a 8))), (7, .int (nI 8))])
    (kk : ∀ (H1 : Heap) (locs1 : List Loc) (ls1 : Array Slot), Wo D T x t (n, w, P, Q, kp) H1 → va_S (Rg x) H0 H1 locs1 → lv_has ls1 13 [(0, .ref x), (1, .int (e0)), (2, .int (nI (prA (mk w r0) w (a + 1)))), (3, .int (nI (fsA (mk w r0) w (a + 1)))), (4, .int (nI (opA w (a + 1)))), (5, .int (nI ((a + 1))))] → W p l e R s m args below meth c H1 locs1 0 0 Qq (F0 m 10 ls1 [])) : W p l e R s m args below meth c H locs 0 0 Qq (F0 m 330 ls []) := by
  have hx := C0.1.1
  have hb := C0.1.2.1
  subst hR
  refine lv_iload hx hb dL_isOrder_330 (lv_at hl 6 rfl) ?_
  refine mr_eq0N (x := fsB (mk w r0) w a 8) (tgt := 341) C0 dL_isOrder_332 (by decide) (by omega) (fun c332 => ?_) (fun c332 => absurd c332 (by omega))
  clear c332
  refine lv_iload_n hx hb dL_isOrder_341 rfl (lv_at hl 3 rfl) ?_
  refine mr_top (y := nI (fsA (mk w r0) w (a + 1))) (congrArg nI (show fsA (mk w r0) w a = fsA (mk w r0) w a + fsB (mk w r0) w a 8 by rw [h1]; rfl)) ?_
  refine lv_istore_n (lv' := [(3, .int (nI (fsA (mk w r0) w (a + 1)))), (0, .ref x), (1, .int (e0)), (2, .int (nI (prA (mk w r0) w (a + 1)))), (4, .int (nI (opA w (a + 1)))), (5, .int (nI a)), (6, .int (nI (fsB (mk w r0) w a 8))), (7, .int (nI 8))]) hx hb dL_isOrder_342 rfl hl (by decide) rfl (fun ls hl => ?_)
  refine lv_iinc (k := 5) (v := nI (a + 1)) (lv' := [(5, .int (nI (a + 1))), (3, .int (nI (fsA (mk w r0) w (a + 1)))), (0, .ref x), (1, .int (e0)), (2, .int (nI (prA (mk w r0) w (a + 1)))), (4, .int (nI (opA w (a + 1)))), (6, .int (nI (fsB (mk w r0) w a 8))), (7, .int (nI 8))]) hx hb dL_isOrder_343 hl rfl (by rw [show Int32.ofInt 1 = nI 1 from by decide, nI_add]) (by decide) rfl (fun ls hl => ?_)
  refine lv_goto (tgt := 10) hx hb dL_isOrder_346 (by decide) ?_
  exact kk _ _ _ hW hS (lv_sub hl [2, 3, 4, 1, 5, 0] rfl)
set_option maxHeartbeats 4000000 in
set_option maxRecDepth 100000 in
theorem io_a {p : Program} {l : Launch} {e : Env} {R : Room} {s : State} {m : MethodId} {args : Array Value} {below : List Frame} {meth : Method} {c : Code} {Qq : State → Prop} {D : va_G} {T : Nat → ClassId} {H0 : Heap} {x n t : Nat} {w : Nat → Int32} {P Q : Nat → Nat → Int32} {kp : Nat → Bool} {e0 : Int32} {r0 : Nat} (C0 : Cx p s m args c cL_isOrder 13 wsL_isOrder RL D T) (hR : R = { frames := 8, cells := 0, slots := 0, locals := 190 }) (hG : Good w t) (hE : EpOk w e0 r0)
    (kk : ∀ (H1 : Heap) (locs1 : List Loc) (ls1 : Array Slot), Wo D T x t (n, w, P, Q, kp) H1 → va_S (Rg x) H0 H1 locs1 → lv_has ls1 13 [(0, .ref x), (1, .int (e0)), (2, .int (nI (prA (mk w r0) w 8))), (3, .int (nI (fsA (mk w r0) w 8))), (4, .int (nI (opA w 8))), (5, .int (nI 8))] → W p l e R s m args below meth c H1 locs1 0 0 Qq (F0 m 349 ls1 [])) :
    ∀ (r a : Nat) (H : Heap) (locs : List Loc) (ls : Array Slot), a + r = 8 → Wo D T x t (n, w, P, Q, kp) H → va_S (Rg x) H0 H locs → lv_has ls 13 [(0, .ref x), (1, .int (e0)), (2, .int (nI (prA (mk w r0) w a))), (3, .int (nI (fsA (mk w r0) w a))), (4, .int (nI (opA w a))), (5, .int (nI a))] → W p l e R s m args below meth c H locs 0 0 Qq (F0 m 10 ls []) := by
  have hx := C0.1.1
  have hb := C0.1.2.1
  subst hR
  intro r
  induction r with
  | zero =>
    intro a H locs ls hk hW hS hl
    have e : a = 8 := by omega
    subst e
    refine lv_iload hx hb dL_isOrder_10 (lv_at hl 5 rfl) ?_
    refine lv_bipush (v := nI 8) hx hb dL_isOrder_12 (by decide) ?_
    refine mr_geN (x := 8) (y := 8) (tgt := 349) C0 dL_isOrder_14 (by decide) (by omega) (by omega) (fun c => ?_) (fun c => absurd c (by omega))
    exact kk _ _ _ hW hS hl
  | succ r ih =>
    intro a H locs ls hk hW hS hl
    have ha : a < 8 := by omega
    have s2 : ∀ (H1 : Heap) (locs1 : List Loc) (ls1 : Array Slot), Wo D T x t (n, w, P, Q, kp) H1 → va_S (Rg x) H0 H1 locs1 → lv_has ls1 13 [(0, .ref x), (1, .int (e0)), (2, .int (nI (prA (mk w r0) w (a + 1)))), (3, .int (nI (fsA (mk w r0) w a))), (4, .int (nI (opA w (a + 1)))), (5, .int (nI a)), (6, .int (nI (fsB (mk w r0) w a 8))), (7, .int (nI 8))] → W p l e { frames := 8, cells := 0, slots := 0, locals := 190 } s m args below meth c H1 locs1 0 0 Qq (F0 m 330 ls1 []) := fun H1 locs1 ls1 hW1 hS1 hl1 => by
      have f1 := fsB_le (mk w r0) w a 8
      by_cases h1 : fsB (mk w r0) w a 8 = 0
      · exact io_a2 C0 rfl hG hE ha h1 hW1 hS1 hl1 (fun H2 locs2 ls2 hW2 hS2 hl2 => ih (a + 1) H2 locs2 ls2 (by omega) hW2 hS2 hl2)
      · exact io_a3 C0 rfl hG hE ha (by omega) hW1 hS1 hl1 (fun H2 locs2 ls2 hW2 hS2 hl2 => ih (a + 1) H2 locs2 ls2 (by omega) hW2 hS2 hl2)
    have s1 : ∀ (H1 : Heap) (locs1 : List Loc) (ls1 : Array Slot), Wo D T x t (n, w, P, Q, kp) H1 → va_S (Rg x) H0 H1 locs1 → lv_has ls1 13 [(0, .ref x), (1, .int (e0)), (2, .int (nI (prA (mk w r0) w a))), (3, .int (nI (fsA (mk w r0) w a))), (4, .int (nI (opA w (a + 1)))), (5, .int (nI a)), (6, .int (nI (fo w a))), (7, .int (nI 0))] → W p l e { frames := 8, cells := 0, slots := 0, locals := 190 } s m args below meth c H1 locs1 0 0 Qq (F0 m 54 ls1 []) := fun H1 locs1 ls1 hW1 hS1 hl1 =>
      io_b (n0 := prA (mk w r0) w a) C0 rfl hG hE ha s2 8 0 H1 locs1 ls1 rfl hW1 hS1 hl1
    by_cases h1 : w a = nI 1
    · exact io_a1 C0 rfl hG hE ha h1 hW hS hl s1
    · exact io_a0 C0 rfl hG hE ha h1 hW hS hl s1
theorem nJ_toInt {g : Nat} (h : g ≤ 40320) : (nJ g).toInt = (g : Int) := by
  unfold nJ
  rw [Int64.toInt_ofNat_of_lt (by omega)]
theorem nJ_ge {g : Nat} (h1 : 1 ≤ g) (h2 : g ≤ 40320) : ¬ lg_cmp (nJ g) 1 < 0 := fun h => by
  have := (lg_cmp_lt _ _).mp h
  rw [Int64.lt_iff_toInt_lt, nJ_toInt h2] at this
  have e : (1 : Int64).toInt = 1 := by decide
  omega
theorem nJ_one {g : Nat} (h2 : g ≤ 40320) : lg_cmp (nJ g) 1 = 0 ↔ g = 1 := by
  rw [lg_cmp_eq, ← Int64.toInt_inj, nJ_toInt h2]
  have e : (1 : Int64).toInt = 1 := by decide
  omega
theorem half_eq : ∀ o, o < 9 → ((nI o) * (nI o - nI 1)) / (nI 2) = nI (o * (o - 1) / 2) := by decide +kernel
theorem mul_le64 {a b : Nat} (ha : a ≤ 8) (hb : b ≤ 8) : a * b ≤ 64 := Nat.mul_le_mul ha hb
set_option maxHeartbeats 4000000 in
set_option maxRecDepth 100000 in
theorem io_e1z {p : Program} {l : Launch} {e : Env} {R : Room} {s : State} {m : MethodId} {args : Array Value} {below : List Frame} {meth : Method} {c : Code} {Qq : State → Prop} {D : va_G} {T : Nat → ClassId} {H0 : Heap} {x n t : Nat} {w : Nat → Int32} {P Q : Nat → Nat → Int32} {kp : Nat → Bool} {oo kc wd pr ff g : Nat} {H : Heap} {locs : List Loc} {ls : Array Slot} {e0 : Int32} {r0 : Nat} (C0 : Cx p s m args c cL_isOrder 13 wsL_isOrder RL D T) (hR : R = { frames := 8, cells := 0, slots := 0, locals := 190 }) (hG : Good w t) (hE : EpOk w e0 r0)
    (e0p : pairN (clo (mk w r0)) (osM w) = pr) (e1 : lonN (mk w r0) (osM w) = nI kc) (e2 : widN (clo (mk w r0)) (osM w) = wd) (e3 : pcN (fstN (clo (mk w r0)) (osM w)) = ff) (el : lsF (clo (mk w r0)) (osM w) (osM w) (osM w) = nJ g)
    (k8 : kc ≤ 8) (w8 : wd ≤ 8) (o8 : oo ≤ 8) (p64 : pr ≤ 64) (ff8 : ff ≤ 8) (g1 : 1 ≤ g) (g2 : g ≤ 40320) (n1 : kc + wd ≤ oo + 1) (n2 : oo ≤ kc * wd) (n3 : oo = 0 ↔ kc = 0) (n4 : pr = 0 ↔ wd = oo) (n5 : pr = oo * (oo - 1) / 2 ↔ g = 1) (n6 : 0 < ff ∨ oo = 0) (hz : oo = 0) (hz2 : kc = 0) (hW : Wo D T x t (n, w, P, Q, kp) H) (hS : va_S (Rg x) H0 H locs) (hl : lv_has ls 13 [(0, .ref x), (1, .int (e0)), (2, .int (nI pr)), (3, .int (nI ff)), (4, .int (nI oo))])
    (kk : ∀ (H1 : Heap) (locs1 : List Loc) (ls1 : Array Slot), Wo D T x t (n, w, P, Q, kp) H1 → va_S (Rg x) H0 H1 locs1 → lv_has ls1 13 [(0, .ref x), (1, .int (e0)), (2, .int (nI pr)), (3, .int (nI ff)), (4, .int (nI oo)), (5, .int (nI kc)), (6, .int (nI wd)), (7, .long (nJ g))] → W p l e R s m args below meth c H1 locs1 0 0 Qq (F0 m 449 ls1 [])) : W p l e R s m args below meth c H locs 0 0 Qq (F0 m 349 ls []) := by
  have hx := C0.1.1
  have hb := C0.1.2.1
  subst hR
  refine lv_aload_n hx hb dL_isOrder_349 rfl (lv_at hl 0 rfl) ?_
  refine lv_iload_n hx hb dL_isOrder_350 rfl (lv_at hl 1 rfl) ?_
  refine lv_iconst (v := nI 1) hx hb dL_isOrder_351 (by decide) ?_
  refine mo_call (x := x) (As := [.int (e0), .int (nI 1)]) (rest := []) (st1 := [.int (fOrd (mk w r0) (osM w) 1)]) C0 (op_order (by decide) hE) hW (fun rm x1 x2 x3 x4 => cwV 2 C0.1.2.2.2.2 gL_isOrder_X3_order rfl x1 x2 (by decide +kernel) ⟨by show _ ≤ 8; omega, by show _ ≤ 190; omega⟩) hS (fun _ h => h) rfl rfl rfl hl.1 (Nat.le_of_ble_eq_true rfl) dL_isOrder_352 ⟨Nat.le_of_ble_eq_true rfl, Nat.le_of_ble_eq_true rfl⟩ (fun H1 locs1 hW hF hS1 => ?_)
  clear hS
  have hS := hS1
  clear hS1 hF
  refine mr_top (y := nI kc) (e1) ?_
  refine lv_istore (lv' := [(5, .int (nI kc)), (0, .ref x), (1, .int (e0)), (2, .int (nI pr)), (3, .int (nI ff)), (4, .int (nI oo))]) hx hb dL_isOrder_355 hl (by decide) rfl (fun ls hl => ?_)
  refine lv_aload_n hx hb dL_isOrder_357 rfl (lv_at hl 1 rfl) ?_
  refine lv_iload_n hx hb dL_isOrder_358 rfl (lv_at hl 2 rfl) ?_
  refine lv_iconst (v := nI 2) hx hb dL_isOrder_359 (by decide) ?_
  refine mo_call (x := x) (As := [.int (e0), .int (nI 2)]) (rest := []) (st1 := [.int (fOrd (mk w r0) (osM w) 2)]) C0 (op_order (by decide) hE) hW (fun rm x1 x2 x3 x4 => cwV 2 C0.1.2.2.2.2 gL_isOrder_X3_order rfl x1 x2 (by decide +kernel) ⟨by show _ ≤ 8; omega, by show _ ≤ 190; omega⟩) hS (fun _ h => h) rfl rfl rfl hl.1 (Nat.le_of_ble_eq_true rfl) dL_isOrder_360 ⟨Nat.le_of_ble_eq_true rfl, Nat.le_of_ble_eq_true rfl⟩ (fun H1 locs1 hW hF hS1 => ?_)
  clear hS
  have hS := hS1
  clear hS1 hF
  refine mr_top (y := nI wd) (congrArg nI e2) ?_
  refine lv_istore (lv' := [(6, .int (nI wd)), (5, .int (nI kc)), (0, .ref x), (1, .int (e0)), (2, .int (nI pr)), (3, .int (nI ff)), (4, .int (nI oo))]) hx hb dL_isOrder_363 hl (by decide) rfl (fun ls hl => ?_)
  refine lv_aload_n hx hb dL_isOrder_365 rfl (lv_at hl 2 rfl) ?_
  refine lv_iload_n hx hb dL_isOrder_366 rfl (lv_at hl 3 rfl) ?_
  refine mo_call (x := x) (As := [.int (e0)]) (rest := []) (st1 := [.long (lsF (clo (mk w r0)) (osM w) (osM w) (osM w))]) C0 (op_lists hE) hW (fun rm x1 x2 x3 x4 => cwV 1 C0.1.2.2.2.2 gL_isOrder_X3_lists rfl x1 x2 (by decide +kernel) ⟨by show _ ≤ 8; omega, by show _ ≤ 190; omega⟩) hS (fun _ h => h) rfl rfl rfl hl.1 (Nat.le_of_ble_eq_true rfl) dL_isOrder_367 ⟨Nat.le_of_ble_eq_true rfl, Nat.le_of_ble_eq_true rfl⟩ (fun H1 locs1 hW hF hS1 => ?_)
  clear hS
  have hS := hS1
  clear hS1 hF
  refine mr_topl (y := nJ g) (el) ?_
  refine lv_lstore (lv' := [(7, .long (nJ g)), (6, .int (nI wd)), (5, .int (nI kc)), (0, .ref x), (1, .int (e0)), (2, .int (nI pr)), (3, .int (nI ff)), (4, .int (nI oo))]) hx hb dL_isOrder_370 hl (by decide) rfl (fun ls hl => ?_)
  refine lv_aload_n hx hb dL_isOrder_372 rfl (lv_at hl 3 rfl) ?_
  refine lv_iload_n hx hb dL_isOrder_373 rfl (lv_at hl 4 rfl) ?_
  refine lv_iconst (v := nI 0) hx hb dL_isOrder_374 (by decide) ?_
  refine mo_call (x := x) (As := [.int (e0), .int (nI 0)]) (rest := []) (st1 := [.int (fOrd (mk w r0) (osM w) 0)]) C0 (op_order (by decide) hE) hW (fun rm x1 x2 x3 x4 => cwV 2 C0.1.2.2.2.2 gL_isOrder_X3_order rfl x1 x2 (by decide +kernel) ⟨by show _ ≤ 8; omega, by show _ ≤ 190; omega⟩) hS (fun _ h => h) rfl rfl rfl hl.1 (Nat.le_of_ble_eq_true rfl) dL_isOrder_375 ⟨Nat.le_of_ble_eq_true rfl, Nat.le_of_ble_eq_true rfl⟩ (fun H1 locs1 hW hF hS1 => ?_)
  clear hS
  have hS := hS1
  clear hS1 hF
  refine mr_top (y := nI pr) (congrArg nI e0p) ?_
  refine lv_iload_n hx hb dL_isOrder_378 rfl (lv_at hl 5 rfl) ?_
  refine lv_icmp_ne (tgt := 441) hx hb dL_isOrder_379 (by decide) (fun c379 => absurd rfl c379) (fun c379 => ?_)
  clear c379
  refine lv_aload_n hx hb dL_isOrder_382 rfl (lv_at hl 3 rfl) ?_
  refine lv_iload_n hx hb dL_isOrder_383 rfl (lv_at hl 4 rfl) ?_
  refine lv_iconst (v := nI 3) hx hb dL_isOrder_384 (by decide) ?_
  refine mo_call (x := x) (As := [.int (e0), .int (nI 3)]) (rest := []) (st1 := [.int (fOrd (mk w r0) (osM w) 3)]) C0 (op_order (by decide) hE) hW (fun rm x1 x2 x3 x4 => cwV 2 C0.1.2.2.2.2 gL_isOrder_X3_order rfl x1 x2 (by decide +kernel) ⟨by show _ ≤ 8; omega, by show _ ≤ 190; omega⟩) hS (fun _ h => h) rfl rfl rfl hl.1 (Nat.le_of_ble_eq_true rfl) dL_isOrder_385 ⟨Nat.le_of_ble_eq_true rfl, Nat.le_of_ble_eq_true rfl⟩ (fun H1 locs1 hW hF hS1 => ?_)
  clear hS
  have hS := hS1
  clear hS1 hF
  refine mr_top (y := nI ff) (congrArg nI e3) ?_
  refine lv_iload_n hx hb dL_isOrder_388 rfl (lv_at hl 6 rfl) ?_
  refine lv_icmp_ne (tgt := 441) hx hb dL_isOrder_389 (by decide) (fun c389 => absurd rfl c389) (fun c389 => ?_)
  clear c389
  refine lv_iload hx hb dL_isOrder_392 (lv_at hl 2 rfl) ?_
  refine lv_iload hx hb dL_isOrder_394 (lv_at hl 1 rfl) ?_
  refine mr_iaddN (z := kc + wd) C0 (rfl) dL_isOrder_396 ?_
  refine lv_iload hx hb dL_isOrder_397 (lv_at hl 7 rfl) ?_
  refine lv_iconst (v := nI 1) hx hb dL_isOrder_399 (by decide) ?_
  refine mr_iaddN (z := oo + 1) C0 (rfl) dL_isOrder_400 ?_
  refine mr_gtN (x := kc + wd) (y := oo + 1) (tgt := 441) C0 dL_isOrder_401 (by decide) (by omega) (by omega) (fun c401 => absurd c401 (by omega)) (fun c401 => ?_)
  clear c401
  refine lv_iload hx hb dL_isOrder_404 (lv_at hl 2 rfl) ?_
  refine lv_iload hx hb dL_isOrder_406 (lv_at hl 1 rfl) ?_
  refine mr_imulN (z := kc * wd) C0 (rfl) dL_isOrder_408 ?_
  refine lv_iload hx hb dL_isOrder_409 (lv_at hl 7 rfl) ?_
  refine mr_ltN (x := kc * wd) (y := oo) (tgt := 441) C0 dL_isOrder_411 (by decide) (by have := mul_le64 k8 w8; omega) (by omega) (fun c411 => absurd c411 (by omega)) (fun c411 => ?_)
  clear c411
  refine lv_iload hx hb dL_isOrder_414 (lv_at hl 7 rfl) ?_
  refine mr_ne0N (x := oo) (tgt := 423) C0 dL_isOrder_416 (by decide) (by omega) (fun c416 => absurd c416 (by omega)) (fun c416 => ?_)
  clear c416
  refine lv_iconst (v := nI 1) hx hb dL_isOrder_419 (by decide) ?_
  refine lv_goto (tgt := 424) hx hb dL_isOrder_420 (by decide) ?_
  refine lv_iload hx hb dL_isOrder_424 (lv_at hl 2 rfl) ?_
  refine mr_ne0N (x := kc) (tgt := 433) C0 dL_isOrder_426 (by decide) (by omega) (fun c426 => absurd c426 (by omega)) (fun c426 => ?_)
  clear c426
  refine lv_iconst (v := nI 1) hx hb dL_isOrder_429 (by decide) ?_
  refine lv_goto (tgt := 434) hx hb dL_isOrder_430 (by decide) ?_
  refine lv_icmp_ne (tgt := 441) hx hb dL_isOrder_434 (by decide) (fun c434 => absurd rfl c434) (fun c434 => ?_)
  clear c434
  refine lv_iconst (v := nI 1) hx hb dL_isOrder_437 (by decide) ?_
  refine lv_goto (tgt := 442) hx hb dL_isOrder_438 (by decide) ?_
  refine lv_istore (lv' := [(9, .int (nI 1)), (7, .long (nJ g)), (6, .int (nI wd)), (5, .int (nI kc)), (0, .ref x), (1, .int (e0)), (2, .int (nI pr)), (3, .int (nI ff)), (4, .int (nI oo))]) hx hb dL_isOrder_442 hl (by decide) rfl (fun ls hl => ?_)
  refine lv_iload hx hb dL_isOrder_444 (lv_at hl 0 rfl) ?_
  refine mr_eq0N (x := 1) (tgt := 526) C0 dL_isOrder_446 (by decide) (by decide) (fun c446 => absurd c446 (by omega)) (fun c446 => ?_)
  clear c446
  exact kk _ _ _ hW hS (lv_sub hl [4, 5, 6, 7, 8, 3, 2, 1] rfl)
set_option maxHeartbeats 4000000 in
set_option maxRecDepth 100000 in
theorem io_e1p {p : Program} {l : Launch} {e : Env} {R : Room} {s : State} {m : MethodId} {args : Array Value} {below : List Frame} {meth : Method} {c : Code} {Qq : State → Prop} {D : va_G} {T : Nat → ClassId} {H0 : Heap} {x n t : Nat} {w : Nat → Int32} {P Q : Nat → Nat → Int32} {kp : Nat → Bool} {oo kc wd pr ff g : Nat} {H : Heap} {locs : List Loc} {ls : Array Slot} {e0 : Int32} {r0 : Nat} (C0 : Cx p s m args c cL_isOrder 13 wsL_isOrder RL D T) (hR : R = { frames := 8, cells := 0, slots := 0, locals := 190 }) (hG : Good w t) (hE : EpOk w e0 r0)
    (e0p : pairN (clo (mk w r0)) (osM w) = pr) (e1 : lonN (mk w r0) (osM w) = nI kc) (e2 : widN (clo (mk w r0)) (osM w) = wd) (e3 : pcN (fstN (clo (mk w r0)) (osM w)) = ff) (el : lsF (clo (mk w r0)) (osM w) (osM w) (osM w) = nJ g)
    (k8 : kc ≤ 8) (w8 : wd ≤ 8) (o8 : oo ≤ 8) (p64 : pr ≤ 64) (ff8 : ff ≤ 8) (g1 : 1 ≤ g) (g2 : g ≤ 40320) (n1 : kc + wd ≤ oo + 1) (n2 : oo ≤ kc * wd) (n3 : oo = 0 ↔ kc = 0) (n4 : pr = 0 ↔ wd = oo) (n5 : pr = oo * (oo - 1) / 2 ↔ g = 1) (n6 : 0 < ff ∨ oo = 0) (hz : 0 < oo) (hz2 : 0 < kc) (hW : Wo D T x t (n, w, P, Q, kp) H) (hS : va_S (Rg x) H0 H locs) (hl : lv_has ls 13 [(0, .ref x), (1, .int (e0)), (2, .int (nI pr)), (3, .int (nI ff)), (4, .int (nI oo))])
    (kk : ∀ (H1 : Heap) (locs1 : List Loc) (ls1 : Array Slot), Wo D T x t (n, w, P, Q, kp) H1 → va_S (Rg x) H0 H1 locs1 → lv_has ls1 13 [(0, .ref x), (1, .int (e0)), (2, .int (nI pr)), (3, .int (nI ff)), (4, .int (nI oo)), (5, .int (nI kc)), (6, .int (nI wd)), (7, .long (nJ g))] → W p l e R s m args below meth c H1 locs1 0 0 Qq (F0 m 449 ls1 [])) : W p l e R s m args below meth c H locs 0 0 Qq (F0 m 349 ls []) := by
  have hx := C0.1.1
  have hb := C0.1.2.1
  subst hR
  refine lv_aload_n hx hb dL_isOrder_349 rfl (lv_at hl 0 rfl) ?_
  refine lv_iload_n hx hb dL_isOrder_350 rfl (lv_at hl 1 rfl) ?_
  refine lv_iconst (v := nI 1) hx hb dL_isOrder_351 (by decide) ?_
  refine mo_call (x := x) (As := [.int (e0), .int (nI 1)]) (rest := []) (st1 := [.int (fOrd (mk w r0) (osM w) 1)]) C0 (op_order (by decide) hE) hW (fun rm x1 x2 x3 x4 => cwV 2 C0.1.2.2.2.2 gL_isOrder_X3_order rfl x1 x2 (by decide +kernel) ⟨by show _ ≤ 8; omega, by show _ ≤ 190; omega⟩) hS (fun _ h => h) rfl rfl rfl hl.1 (Nat.le_of_ble_eq_true rfl) dL_isOrder_352 ⟨Nat.le_of_ble_eq_true rfl, Nat.le_of_ble_eq_true rfl⟩ (fun H1 locs1 hW hF hS1 => ?_)
  clear hS
  have hS := hS1
  clear hS1 hF
  refine mr_top (y := nI kc) (e1) ?_
  refine lv_istore (lv' := [(5, .int (nI kc)), (0, .ref x), (1, .int (e0)), (2, .int (nI pr)), (3, .int (nI ff)), (4, .int (nI oo))]) hx hb dL_isOrder_355 hl (by decide) rfl (fun ls hl => ?_)
  refine lv_aload_n hx hb dL_isOrder_357 rfl (lv_at hl 1 rfl) ?_
  refine lv_iload_n hx hb dL_isOrder_358 rfl (lv_at hl 2 rfl) ?_
  refine lv_iconst (v := nI 2) hx hb dL_isOrder_359 (by decide) ?_
  refine mo_call (x := x) (As := [.int (e0), .int (nI 2)]) (rest := []) (st1 := [.int (fOrd (mk w r0) (osM w) 2)]) C0 (op_order (by decide) hE) hW (fun rm x1 x2 x3 x4 => cwV 2 C0.1.2.2.2.2 gL_isOrder_X3_order rfl x1 x2 (by decide +kernel) ⟨by show _ ≤ 8; omega, by show _ ≤ 190; omega⟩) hS (fun _ h => h) rfl rfl rfl hl.1 (Nat.le_of_ble_eq_true rfl) dL_isOrder_360 ⟨Nat.le_of_ble_eq_true rfl, Nat.le_of_ble_eq_true rfl⟩ (fun H1 locs1 hW hF hS1 => ?_)
  clear hS
  have hS := hS1
  clear hS1 hF
  refine mr_top (y := nI wd) (congrArg nI e2) ?_
  refine lv_istore (lv' := [(6, .int (nI wd)), (5, .int (nI kc)), (0, .ref x), (1, .int (e0)), (2, .int (nI pr)), (3, .int (nI ff)), (4, .int (nI oo))]) hx hb dL_isOrder_363 hl (by decide) rfl (fun ls hl => ?_)
  refine lv_aload_n hx hb dL_isOrder_365 rfl (lv_at hl 2 rfl) ?_
  refine lv_iload_n hx hb dL_isOrder_366 rfl (lv_at hl 3 rfl) ?_
  refine mo_call (x := x) (As := [.int (e0)]) (rest := []) (st1 := [.long (lsF (clo (mk w r0)) (osM w) (osM w) (osM w))]) C0 (op_lists hE) hW (fun rm x1 x2 x3 x4 => cwV 1 C0.1.2.2.2.2 gL_isOrder_X3_lists rfl x1 x2 (by decide +kernel) ⟨by show _ ≤ 8; omega, by show _ ≤ 190; omega⟩) hS (fun _ h => h) rfl rfl rfl hl.1 (Nat.le_of_ble_eq_true rfl) dL_isOrder_367 ⟨Nat.le_of_ble_eq_true rfl, Nat.le_of_ble_eq_true rfl⟩ (fun H1 locs1 hW hF hS1 => ?_)
  clear hS
  have hS := hS1
  clear hS1 hF
  refine mr_topl (y := nJ g) (el) ?_
  refine lv_lstore (lv' := [(7, .long (nJ g)), (6, .int (nI wd)), (5, .int (nI kc)), (0, .ref x), (1, .int (e0)), (2, .int (nI pr)), (3, .int (nI ff)), (4, .int (nI oo))]) hx hb dL_isOrder_370 hl (by decide) rfl (fun ls hl => ?_)
  refine lv_aload_n hx hb dL_isOrder_372 rfl (lv_at hl 3 rfl) ?_
  refine lv_iload_n hx hb dL_isOrder_373 rfl (lv_at hl 4 rfl) ?_
  refine lv_iconst (v := nI 0) hx hb dL_isOrder_374 (by decide) ?_
  refine mo_call (x := x) (As := [.int (e0), .int (nI 0)]) (rest := []) (st1 := [.int (fOrd (mk w r0) (osM w) 0)]) C0 (op_order (by decide) hE) hW (fun rm x1 x2 x3 x4 => cwV 2 C0.1.2.2.2.2 gL_isOrder_X3_order rfl x1 x2 (by decide +kernel) ⟨by show _ ≤ 8; omega, by show _ ≤ 190; omega⟩) hS (fun _ h => h) rfl rfl rfl hl.1 (Nat.le_of_ble_eq_true rfl) dL_isOrder_375 ⟨Nat.le_of_ble_eq_true rfl, Nat.le_of_ble_eq_true rfl⟩ (fun H1 locs1 hW hF hS1 => ?_)
  clear hS
  have hS := hS1
  clear hS1 hF
  refine mr_top (y := nI pr) (congrArg nI e0p) ?_
  refine lv_iload_n hx hb dL_isOrder_378 rfl (lv_at hl 5 rfl) ?_
  refine lv_icmp_ne (tgt := 441) hx hb dL_isOrder_379 (by decide) (fun c379 => absurd rfl c379) (fun c379 => ?_)
  clear c379
  refine lv_aload_n hx hb dL_isOrder_382 rfl (lv_at hl 3 rfl) ?_
  refine lv_iload_n hx hb dL_isOrder_383 rfl (lv_at hl 4 rfl) ?_
  refine lv_iconst (v := nI 3) hx hb dL_isOrder_384 (by decide) ?_
  refine mo_call (x := x) (As := [.int (e0), .int (nI 3)]) (rest := []) (st1 := [.int (fOrd (mk w r0) (osM w) 3)]) C0 (op_order (by decide) hE) hW (fun rm x1 x2 x3 x4 => cwV 2 C0.1.2.2.2.2 gL_isOrder_X3_order rfl x1 x2 (by decide +kernel) ⟨by show _ ≤ 8; omega, by show _ ≤ 190; omega⟩) hS (fun _ h => h) rfl rfl rfl hl.1 (Nat.le_of_ble_eq_true rfl) dL_isOrder_385 ⟨Nat.le_of_ble_eq_true rfl, Nat.le_of_ble_eq_true rfl⟩ (fun H1 locs1 hW hF hS1 => ?_)
  clear hS
  have hS := hS1
  clear hS1 hF
  refine mr_top (y := nI ff) (congrArg nI e3) ?_
  refine lv_iload_n hx hb dL_isOrder_388 rfl (lv_at hl 6 rfl) ?_
  refine lv_icmp_ne (tgt := 441) hx hb dL_isOrder_389 (by decide) (fun c389 => absurd rfl c389) (fun c389 => ?_)
  clear c389
  refine lv_iload hx hb dL_isOrder_392 (lv_at hl 2 rfl) ?_
  refine lv_iload hx hb dL_isOrder_394 (lv_at hl 1 rfl) ?_
  refine mr_iaddN (z := kc + wd) C0 (rfl) dL_isOrder_396 ?_
  refine lv_iload hx hb dL_isOrder_397 (lv_at hl 7 rfl) ?_
  refine lv_iconst (v := nI 1) hx hb dL_isOrder_399 (by decide) ?_
  refine mr_iaddN (z := oo + 1) C0 (rfl) dL_isOrder_400 ?_
  refine mr_gtN (x := kc + wd) (y := oo + 1) (tgt := 441) C0 dL_isOrder_401 (by decide) (by omega) (by omega) (fun c401 => absurd c401 (by omega)) (fun c401 => ?_)
  clear c401
  refine lv_iload hx hb dL_isOrder_404 (lv_at hl 2 rfl) ?_
  refine lv_iload hx hb dL_isOrder_406 (lv_at hl 1 rfl) ?_
  refine mr_imulN (z := kc * wd) C0 (rfl) dL_isOrder_408 ?_
  refine lv_iload hx hb dL_isOrder_409 (lv_at hl 7 rfl) ?_
  refine mr_ltN (x := kc * wd) (y := oo) (tgt := 441) C0 dL_isOrder_411 (by decide) (by have := mul_le64 k8 w8; omega) (by omega) (fun c411 => absurd c411 (by omega)) (fun c411 => ?_)
  clear c411
  refine lv_iload hx hb dL_isOrder_414 (lv_at hl 7 rfl) ?_
  refine mr_ne0N (x := oo) (tgt := 423) C0 dL_isOrder_416 (by decide) (by omega) (fun c416 => ?_) (fun c416 => absurd c416 (by omega))
  clear c416
  refine lv_iconst (v := nI 0) hx hb dL_isOrder_423 (by decide) ?_
  refine lv_iload hx hb dL_isOrder_424 (lv_at hl 2 rfl) ?_
  refine mr_ne0N (x := kc) (tgt := 433) C0 dL_isOrder_426 (by decide) (by omega) (fun c426 => ?_) (fun c426 => absurd c426 (by omega))
  clear c426
  refine lv_iconst (v := nI 0) hx hb dL_isOrder_433 (by decide) ?_
  refine lv_icmp_ne (tgt := 441) hx hb dL_isOrder_434 (by decide) (fun c434 => absurd rfl c434) (fun c434 => ?_)
  clear c434
  refine lv_iconst (v := nI 1) hx hb dL_isOrder_437 (by decide) ?_
  refine lv_goto (tgt := 442) hx hb dL_isOrder_438 (by decide) ?_
  refine lv_istore (lv' := [(9, .int (nI 1)), (7, .long (nJ g)), (6, .int (nI wd)), (5, .int (nI kc)), (0, .ref x), (1, .int (e0)), (2, .int (nI pr)), (3, .int (nI ff)), (4, .int (nI oo))]) hx hb dL_isOrder_442 hl (by decide) rfl (fun ls hl => ?_)
  refine lv_iload hx hb dL_isOrder_444 (lv_at hl 0 rfl) ?_
  refine mr_eq0N (x := 1) (tgt := 526) C0 dL_isOrder_446 (by decide) (by decide) (fun c446 => absurd c446 (by omega)) (fun c446 => ?_)
  clear c446
  exact kk _ _ _ hW hS (lv_sub hl [4, 5, 6, 7, 8, 3, 2, 1] rfl)
set_option maxHeartbeats 4000000 in
set_option maxRecDepth 100000 in
theorem io_e2z {p : Program} {l : Launch} {e : Env} {R : Room} {s : State} {m : MethodId} {args : Array Value} {below : List Frame} {meth : Method} {c : Code} {Qq : State → Prop} {D : va_G} {T : Nat → ClassId} {H0 : Heap} {x n t : Nat} {w : Nat → Int32} {P Q : Nat → Nat → Int32} {kp : Nat → Bool} {oo kc wd pr ff g : Nat} {H : Heap} {locs : List Loc} {ls : Array Slot} {e0 : Int32} {r0 : Nat} (C0 : Cx p s m args c cL_isOrder 13 wsL_isOrder RL D T) (hR : R = { frames := 8, cells := 0, slots := 0, locals := 190 }) (hG : Good w t) (hE : EpOk w e0 r0)
    (e0p : pairN (clo (mk w r0)) (osM w) = pr) (e1 : lonN (mk w r0) (osM w) = nI kc) (e2 : widN (clo (mk w r0)) (osM w) = wd) (e3 : pcN (fstN (clo (mk w r0)) (osM w)) = ff) (el : lsF (clo (mk w r0)) (osM w) (osM w) (osM w) = nJ g)
    (k8 : kc ≤ 8) (w8 : wd ≤ 8) (o8 : oo ≤ 8) (p64 : pr ≤ 64) (ff8 : ff ≤ 8) (g1 : 1 ≤ g) (g2 : g ≤ 40320) (n1 : kc + wd ≤ oo + 1) (n2 : oo ≤ kc * wd) (n3 : oo = 0 ↔ kc = 0) (n4 : pr = 0 ↔ wd = oo) (n5 : pr = oo * (oo - 1) / 2 ↔ g = 1) (n6 : 0 < ff ∨ oo = 0) (hz : pr = 0) (hz2 : wd = oo) (hW : Wo D T x t (n, w, P, Q, kp) H) (hS : va_S (Rg x) H0 H locs) (hl : lv_has ls 13 [(0, .ref x), (1, .int (e0)), (2, .int (nI pr)), (3, .int (nI ff)), (4, .int (nI oo)), (5, .int (nI kc)), (6, .int (nI wd)), (7, .long (nJ g))])
    (kk : ∀ (H1 : Heap) (locs1 : List Loc) (ls1 : Array Slot), Wo D T x t (n, w, P, Q, kp) H1 → va_S (Rg x) H0 H1 locs1 → lv_has ls1 13 [(0, .ref x), (1, .int (e0)), (2, .int (nI pr)), (3, .int (nI ff)), (4, .int (nI oo)), (5, .int (nI kc)), (6, .int (nI wd)), (7, .long (nJ g))] → W p l e R s m args below meth c H1 locs1 0 0 Qq (F0 m 480 ls1 [])) : W p l e R s m args below meth c H locs 0 0 Qq (F0 m 449 ls []) := by
  have hx := C0.1.1
  have hb := C0.1.2.1
  subst hR
  refine lv_lload hx hb dL_isOrder_449 (lv_at hl 7 rfl) ?_
  refine lv_lconst (v := 1) hx hb dL_isOrder_451 (by decide) ?_
  refine W.lcmp hx hb dL_isOrder_452 ?_
  refine lv_if_lt (tgt := 526) hx hb dL_isOrder_453 (by decide) (fun c453 => absurd c453 (nJ_ge g1 g2)) (fun c453 => ?_)
  clear c453
  refine lv_iload_n hx hb dL_isOrder_456 rfl (lv_at hl 2 rfl) ?_
  refine mr_ne0N (x := pr) (tgt := 464) C0 dL_isOrder_457 (by decide) (by omega) (fun c457 => absurd c457 (by omega)) (fun c457 => ?_)
  clear c457
  refine lv_iconst (v := nI 1) hx hb dL_isOrder_460 (by decide) ?_
  refine lv_goto (tgt := 465) hx hb dL_isOrder_461 (by decide) ?_
  refine lv_iload hx hb dL_isOrder_465 (lv_at hl 6 rfl) ?_
  refine lv_iload hx hb dL_isOrder_467 (lv_at hl 4 rfl) ?_
  refine mr_neN (x := wd) (y := oo) (tgt := 476) C0 dL_isOrder_469 (by decide) (by omega) (by omega) (fun c469 => absurd c469 (by omega)) (fun c469 => ?_)
  clear c469
  refine lv_iconst (v := nI 1) hx hb dL_isOrder_472 (by decide) ?_
  refine lv_goto (tgt := 477) hx hb dL_isOrder_473 (by decide) ?_
  refine lv_icmp_ne (tgt := 526) hx hb dL_isOrder_477 (by decide) (fun c477 => absurd rfl c477) (fun c477 => ?_)
  clear c477
  exact kk _ _ _ hW hS (lv_sub hl [0, 1, 2, 3, 4, 5, 6, 7] rfl)
set_option maxHeartbeats 4000000 in
set_option maxRecDepth 100000 in
theorem io_e2p {p : Program} {l : Launch} {e : Env} {R : Room} {s : State} {m : MethodId} {args : Array Value} {below : List Frame} {meth : Method} {c : Code} {Qq : State → Prop} {D : va_G} {T : Nat → ClassId} {H0 : Heap} {x n t : Nat} {w : Nat → Int32} {P Q : Nat → Nat → Int32} {kp : Nat → Bool} {oo kc wd pr ff g : Nat} {H : Heap} {locs : List Loc} {ls : Array Slot} {e0 : Int32} {r0 : Nat} (C0 : Cx p s m args c cL_isOrder 13 wsL_isOrder RL D T) (hR : R = { frames := 8, cells := 0, slots := 0, locals := 190 }) (hG : Good w t) (hE : EpOk w e0 r0)
    (e0p : pairN (clo (mk w r0)) (osM w) = pr) (e1 : lonN (mk w r0) (osM w) = nI kc) (e2 : widN (clo (mk w r0)) (osM w) = wd) (e3 : pcN (fstN (clo (mk w r0)) (osM w)) = ff) (el : lsF (clo (mk w r0)) (osM w) (osM w) (osM w) = nJ g)
    (k8 : kc ≤ 8) (w8 : wd ≤ 8) (o8 : oo ≤ 8) (p64 : pr ≤ 64) (ff8 : ff ≤ 8) (g1 : 1 ≤ g) (g2 : g ≤ 40320) (n1 : kc + wd ≤ oo + 1) (n2 : oo ≤ kc * wd) (n3 : oo = 0 ↔ kc = 0) (n4 : pr = 0 ↔ wd = oo) (n5 : pr = oo * (oo - 1) / 2 ↔ g = 1) (n6 : 0 < ff ∨ oo = 0) (hz : 0 < pr) (hz2 : ¬ wd = oo) (hW : Wo D T x t (n, w, P, Q, kp) H) (hS : va_S (Rg x) H0 H locs) (hl : lv_has ls 13 [(0, .ref x), (1, .int (e0)), (2, .int (nI pr)), (3, .int (nI ff)), (4, .int (nI oo)), (5, .int (nI kc)), (6, .int (nI wd)), (7, .long (nJ g))])
    (kk : ∀ (H1 : Heap) (locs1 : List Loc) (ls1 : Array Slot), Wo D T x t (n, w, P, Q, kp) H1 → va_S (Rg x) H0 H1 locs1 → lv_has ls1 13 [(0, .ref x), (1, .int (e0)), (2, .int (nI pr)), (3, .int (nI ff)), (4, .int (nI oo)), (5, .int (nI kc)), (6, .int (nI wd)), (7, .long (nJ g))] → W p l e R s m args below meth c H1 locs1 0 0 Qq (F0 m 480 ls1 [])) : W p l e R s m args below meth c H locs 0 0 Qq (F0 m 449 ls []) := by
  have hx := C0.1.1
  have hb := C0.1.2.1
  subst hR
  refine lv_lload hx hb dL_isOrder_449 (lv_at hl 7 rfl) ?_
  refine lv_lconst (v := 1) hx hb dL_isOrder_451 (by decide) ?_
  refine W.lcmp hx hb dL_isOrder_452 ?_
  refine lv_if_lt (tgt := 526) hx hb dL_isOrder_453 (by decide) (fun c453 => absurd c453 (nJ_ge g1 g2)) (fun c453 => ?_)
  clear c453
  refine lv_iload_n hx hb dL_isOrder_456 rfl (lv_at hl 2 rfl) ?_
  refine mr_ne0N (x := pr) (tgt := 464) C0 dL_isOrder_457 (by decide) (by omega) (fun c457 => ?_) (fun c457 => absurd c457 (by omega))
  clear c457
  refine lv_iconst (v := nI 0) hx hb dL_isOrder_464 (by decide) ?_
  refine lv_iload hx hb dL_isOrder_465 (lv_at hl 6 rfl) ?_
  refine lv_iload hx hb dL_isOrder_467 (lv_at hl 4 rfl) ?_
  refine mr_neN (x := wd) (y := oo) (tgt := 476) C0 dL_isOrder_469 (by decide) (by omega) (by omega) (fun c469 => ?_) (fun c469 => absurd c469 (by omega))
  clear c469
  refine lv_iconst (v := nI 0) hx hb dL_isOrder_476 (by decide) ?_
  refine lv_icmp_ne (tgt := 526) hx hb dL_isOrder_477 (by decide) (fun c477 => absurd rfl c477) (fun c477 => ?_)
  clear c477
  exact kk _ _ _ hW hS (lv_sub hl [0, 1, 2, 3, 4, 5, 6, 7] rfl)
theorem half_le : ∀ {o : Nat}, o ≤ 8 → o * (o - 1) / 2 ≤ 28 := by
  have h : ∀ o, o ≤ 8 → o * (o - 1) / 2 ≤ 28 := by decide
  exact fun {o} ho => h o ho
set_option maxHeartbeats 4000000 in
set_option maxRecDepth 100000 in
theorem io_e31 {p : Program} {l : Launch} {e : Env} {R : Room} {s : State} {m : MethodId} {args : Array Value} {below : List Frame} {meth : Method} {c : Code} {Qq : State → Prop} {D : va_G} {T : Nat → ClassId} {H0 : Heap} {x n t : Nat} {w : Nat → Int32} {P Q : Nat → Nat → Int32} {kp : Nat → Bool} {oo kc wd pr ff g : Nat} {H : Heap} {locs : List Loc} {ls : Array Slot} {e0 : Int32} {r0 : Nat} (C0 : Cx p s m args c cL_isOrder 13 wsL_isOrder RL D T) (hR : R = { frames := 8, cells := 0, slots := 0, locals := 190 }) (hG : Good w t) (hE : EpOk w e0 r0)
    (e0p : pairN (clo (mk w r0)) (osM w) = pr) (e1 : lonN (mk w r0) (osM w) = nI kc) (e2 : widN (clo (mk w r0)) (osM w) = wd) (e3 : pcN (fstN (clo (mk w r0)) (osM w)) = ff) (el : lsF (clo (mk w r0)) (osM w) (osM w) (osM w) = nJ g)
    (k8 : kc ≤ 8) (w8 : wd ≤ 8) (o8 : oo ≤ 8) (p64 : pr ≤ 64) (ff8 : ff ≤ 8) (g1 : 1 ≤ g) (g2 : g ≤ 40320) (n1 : kc + wd ≤ oo + 1) (n2 : oo ≤ kc * wd) (n3 : oo = 0 ↔ kc = 0) (n4 : pr = 0 ↔ wd = oo) (n5 : pr = oo * (oo - 1) / 2 ↔ g = 1) (n6 : 0 < ff ∨ oo = 0) (hz : pr = oo * (oo - 1) / 2) (hz2 : g = 1) (hW : Wo D T x t (n, w, P, Q, kp) H) (hS : va_S (Rg x) H0 H locs) (hl : lv_has ls 13 [(0, .ref x), (1, .int (e0)), (2, .int (nI pr)), (3, .int (nI ff)), (4, .int (nI oo)), (5, .int (nI kc)), (6, .int (nI wd)), (7, .long (nJ g))])
    (kk : ∀ (H1 : Heap) (locs1 : List Loc) (ls1 : Array Slot), Wo D T x t (n, w, P, Q, kp) H1 → va_S (Rg x) H0 H1 locs1 → lv_has ls1 13 [(0, .ref x), (1, .int (e0)), (2, .int (nI pr)), (3, .int (nI ff)), (4, .int (nI oo)), (5, .int (nI kc)), (6, .int (nI wd)), (7, .long (nJ g))] → W p l e R s m args below meth c H1 locs1 0 0 Qq (F0 m 513 ls1 [])) : W p l e R s m args below meth c H locs 0 0 Qq (F0 m 480 ls []) := by
  have hx := C0.1.1
  have hb := C0.1.2.1
  subst hR
  refine lv_iload_n hx hb dL_isOrder_480 rfl (lv_at hl 2 rfl) ?_
  refine lv_iload hx hb dL_isOrder_481 (lv_at hl 4 rfl) ?_
  refine lv_iload hx hb dL_isOrder_483 (lv_at hl 4 rfl) ?_
  refine lv_iconst (v := nI 1) hx hb dL_isOrder_485 (by decide) ?_
  refine lv_isub hx hb dL_isOrder_486 ?_
  refine lv_imul hx hb dL_isOrder_487 ?_
  refine lv_iconst (v := nI 2) hx hb dL_isOrder_488 (by decide) ?_
  refine lv_idiv hx hb dL_isOrder_489 (by decide) ?_
  refine mr_top (y := nI (oo * (oo - 1) / 2)) (half_eq oo (by omega)) ?_
  refine mr_neN (x := pr) (y := oo * (oo - 1) / 2) (tgt := 497) C0 dL_isOrder_490 (by decide) (by omega) (by have := half_le (o := oo) o8; omega) (fun c490 => absurd c490 (by omega)) (fun c490 => ?_)
  clear c490
  refine lv_iconst (v := nI 1) hx hb dL_isOrder_493 (by decide) ?_
  refine lv_goto (tgt := 498) hx hb dL_isOrder_494 (by decide) ?_
  refine lv_lload hx hb dL_isOrder_498 (lv_at hl 7 rfl) ?_
  refine lv_lconst (v := 1) hx hb dL_isOrder_500 (by decide) ?_
  refine W.lcmp hx hb dL_isOrder_501 ?_
  refine lv_if_ne (tgt := 509) hx hb dL_isOrder_502 (by decide) (fun c502 => absurd ((nJ_one g2).mpr hz2) c502) (fun c502 => ?_)
  clear c502
  refine lv_iconst (v := nI 1) hx hb dL_isOrder_505 (by decide) ?_
  refine lv_goto (tgt := 510) hx hb dL_isOrder_506 (by decide) ?_
  refine lv_icmp_ne (tgt := 526) hx hb dL_isOrder_510 (by decide) (fun c510 => absurd rfl c510) (fun c510 => ?_)
  clear c510
  exact kk _ _ _ hW hS (lv_sub hl [0, 1, 2, 3, 4, 5, 6, 7] rfl)
set_option maxHeartbeats 4000000 in
set_option maxRecDepth 100000 in
theorem io_e3n {p : Program} {l : Launch} {e : Env} {R : Room} {s : State} {m : MethodId} {args : Array Value} {below : List Frame} {meth : Method} {c : Code} {Qq : State → Prop} {D : va_G} {T : Nat → ClassId} {H0 : Heap} {x n t : Nat} {w : Nat → Int32} {P Q : Nat → Nat → Int32} {kp : Nat → Bool} {oo kc wd pr ff g : Nat} {H : Heap} {locs : List Loc} {ls : Array Slot} {e0 : Int32} {r0 : Nat} (C0 : Cx p s m args c cL_isOrder 13 wsL_isOrder RL D T) (hR : R = { frames := 8, cells := 0, slots := 0, locals := 190 }) (hG : Good w t) (hE : EpOk w e0 r0)
    (e0p : pairN (clo (mk w r0)) (osM w) = pr) (e1 : lonN (mk w r0) (osM w) = nI kc) (e2 : widN (clo (mk w r0)) (osM w) = wd) (e3 : pcN (fstN (clo (mk w r0)) (osM w)) = ff) (el : lsF (clo (mk w r0)) (osM w) (osM w) (osM w) = nJ g)
    (k8 : kc ≤ 8) (w8 : wd ≤ 8) (o8 : oo ≤ 8) (p64 : pr ≤ 64) (ff8 : ff ≤ 8) (g1 : 1 ≤ g) (g2 : g ≤ 40320) (n1 : kc + wd ≤ oo + 1) (n2 : oo ≤ kc * wd) (n3 : oo = 0 ↔ kc = 0) (n4 : pr = 0 ↔ wd = oo) (n5 : pr = oo * (oo - 1) / 2 ↔ g = 1) (n6 : 0 < ff ∨ oo = 0) (hz : ¬ pr = oo * (oo - 1) / 2) (hz2 : ¬ g = 1) (hW : Wo D T x t (n, w, P, Q, kp) H) (hS : va_S (Rg x) H0 H locs) (hl : lv_has ls 13 [(0, .ref x), (1, .int (e0)), (2, .int (nI pr)), (3, .int (nI ff)), (4, .int (nI oo)), (5, .int (nI kc)), (6, .int (nI wd)), (7, .long (nJ g))])
    (kk : ∀ (H1 : Heap) (locs1 : List Loc) (ls1 : Array Slot), Wo D T x t (n, w, P, Q, kp) H1 → va_S (Rg x) H0 H1 locs1 → lv_has ls1 13 [(0, .ref x), (1, .int (e0)), (2, .int (nI pr)), (3, .int (nI ff)), (4, .int (nI oo)), (5, .int (nI kc)), (6, .int (nI wd)), (7, .long (nJ g))] → W p l e R s m args below meth c H1 locs1 0 0 Qq (F0 m 513 ls1 [])) : W p l e R s m args below meth c H locs 0 0 Qq (F0 m 480 ls []) := by
  have hx := C0.1.1
  have hb := C0.1.2.1
  subst hR
  refine lv_iload_n hx hb dL_isOrder_480 rfl (lv_at hl 2 rfl) ?_
  refine lv_iload hx hb dL_isOrder_481 (lv_at hl 4 rfl) ?_
  refine lv_iload hx hb dL_isOrder_483 (lv_at hl 4 rfl) ?_
  refine lv_iconst (v := nI 1) hx hb dL_isOrder_485 (by decide) ?_
  refine lv_isub hx hb dL_isOrder_486 ?_
  refine lv_imul hx hb dL_isOrder_487 ?_
  refine lv_iconst (v := nI 2) hx hb dL_isOrder_488 (by decide) ?_
  refine lv_idiv hx hb dL_isOrder_489 (by decide) ?_
  refine mr_top (y := nI (oo * (oo - 1) / 2)) (half_eq oo (by omega)) ?_
  refine mr_neN (x := pr) (y := oo * (oo - 1) / 2) (tgt := 497) C0 dL_isOrder_490 (by decide) (by omega) (by have := half_le (o := oo) o8; omega) (fun c490 => ?_) (fun c490 => absurd c490 (by omega))
  clear c490
  refine lv_iconst (v := nI 0) hx hb dL_isOrder_497 (by decide) ?_
  refine lv_lload hx hb dL_isOrder_498 (lv_at hl 7 rfl) ?_
  refine lv_lconst (v := 1) hx hb dL_isOrder_500 (by decide) ?_
  refine W.lcmp hx hb dL_isOrder_501 ?_
  refine lv_if_ne (tgt := 509) hx hb dL_isOrder_502 (by decide) (fun c502 => ?_) (fun c502 => absurd ((nJ_one g2).mp c502) hz2)
  clear c502
  refine lv_iconst (v := nI 0) hx hb dL_isOrder_509 (by decide) ?_
  refine lv_icmp_ne (tgt := 526) hx hb dL_isOrder_510 (by decide) (fun c510 => absurd rfl c510) (fun c510 => ?_)
  clear c510
  exact kk _ _ _ hW hS (lv_sub hl [0, 1, 2, 3, 4, 5, 6, 7] rfl)
set_option maxHeartbeats 4000000 in
set_option maxRecDepth 100000 in
theorem io_e4f {p : Program} {l : Launch} {e : Env} {R : Room} {s : State} {m : MethodId} {args : Array Value} {below : List Frame} {meth : Method} {c : Code} {Qq : State → Prop} {D : va_G} {T : Nat → ClassId} {x n t : Nat} {w : Nat → Int32} {P Q : Nat → Nat → Int32} {kp : Nat → Bool} {oo kc wd pr ff g : Nat} {H : Heap} {locs : List Loc} {ls : Array Slot} {e0 : Int32} {r0 : Nat} (C0 : Cx p s m args c cL_isOrder 13 wsL_isOrder RL D T) (hR : R = { frames := 8, cells := 0, slots := 0, locals := 190 }) (hG : Good w t) (hE : EpOk w e0 r0)
    (e0p : pairN (clo (mk w r0)) (osM w) = pr) (e1 : lonN (mk w r0) (osM w) = nI kc) (e2 : widN (clo (mk w r0)) (osM w) = wd) (e3 : pcN (fstN (clo (mk w r0)) (osM w)) = ff) (el : lsF (clo (mk w r0)) (osM w) (osM w) (osM w) = nJ g)
    (k8 : kc ≤ 8) (w8 : wd ≤ 8) (o8 : oo ≤ 8) (p64 : pr ≤ 64) (ff8 : ff ≤ 8) (g1 : 1 ≤ g) (g2 : g ≤ 40320) (n1 : kc + wd ≤ oo + 1) (n2 : oo ≤ kc * wd) (n3 : oo = 0 ↔ kc = 0) (n4 : pr = 0 ↔ wd = oo) (n5 : pr = oo * (oo - 1) / 2 ↔ g = 1) (n6 : 0 < ff ∨ oo = 0) (hz : 0 < ff) (hr : meth.sig.returnType = some .boolean) (hlk : meth.locks = false) (hQ : Qq = MQ below (CtQ (Rg x) (some (.int (bI true))) (fun H => Wo D T x t (n, w, P, Q, kp) H)) args s 0 0 (Rg x)) (hW : Wo D T x t (n, w, P, Q, kp) H) (hS : va_S (Rg x) s.heap H locs) (hl : lv_has ls 13 [(0, .ref x), (1, .int (e0)), (2, .int (nI pr)), (3, .int (nI ff)), (4, .int (nI oo)), (5, .int (nI kc)), (6, .int (nI wd)), (7, .long (nJ g))]) : W p l e R s m args below meth c H locs 0 0 Qq (F0 m 513 ls []) := by
  have hx := C0.1.1
  have hb := C0.1.2.1
  subst hR
  refine lv_iload_n hx hb dL_isOrder_513 rfl (lv_at hl 3 rfl) ?_
  refine mr_gt0N (x := ff) (tgt := 522) C0 dL_isOrder_514 (by decide) (by omega) (fun c514 => ?_) (fun c514 => absurd c514 (by omega))
  clear c514
  refine lv_iconst (v := nI 1) hx hb dL_isOrder_522 (by decide) ?_
  refine lv_goto (tgt := 527) hx hb dL_isOrder_523 (by decide) ?_
  refine mr_top (y := bI true) (by decide) ?_
  exact mr_zret (b := true) C0 hr hlk hQ hS rfl hW (Nat.le_refl _) (Nat.le_refl _) dL_isOrder_527
set_option maxHeartbeats 4000000 in
set_option maxRecDepth 100000 in
theorem io_e4o {p : Program} {l : Launch} {e : Env} {R : Room} {s : State} {m : MethodId} {args : Array Value} {below : List Frame} {meth : Method} {c : Code} {Qq : State → Prop} {D : va_G} {T : Nat → ClassId} {x n t : Nat} {w : Nat → Int32} {P Q : Nat → Nat → Int32} {kp : Nat → Bool} {oo kc wd pr ff g : Nat} {H : Heap} {locs : List Loc} {ls : Array Slot} {e0 : Int32} {r0 : Nat} (C0 : Cx p s m args c cL_isOrder 13 wsL_isOrder RL D T) (hR : R = { frames := 8, cells := 0, slots := 0, locals := 190 }) (hG : Good w t) (hE : EpOk w e0 r0)
    (e0p : pairN (clo (mk w r0)) (osM w) = pr) (e1 : lonN (mk w r0) (osM w) = nI kc) (e2 : widN (clo (mk w r0)) (osM w) = wd) (e3 : pcN (fstN (clo (mk w r0)) (osM w)) = ff) (el : lsF (clo (mk w r0)) (osM w) (osM w) (osM w) = nJ g)
    (k8 : kc ≤ 8) (w8 : wd ≤ 8) (o8 : oo ≤ 8) (p64 : pr ≤ 64) (ff8 : ff ≤ 8) (g1 : 1 ≤ g) (g2 : g ≤ 40320) (n1 : kc + wd ≤ oo + 1) (n2 : oo ≤ kc * wd) (n3 : oo = 0 ↔ kc = 0) (n4 : pr = 0 ↔ wd = oo) (n5 : pr = oo * (oo - 1) / 2 ↔ g = 1) (n6 : 0 < ff ∨ oo = 0) (hz : ff = 0) (hz2 : oo = 0) (hr : meth.sig.returnType = some .boolean) (hlk : meth.locks = false) (hQ : Qq = MQ below (CtQ (Rg x) (some (.int (bI true))) (fun H => Wo D T x t (n, w, P, Q, kp) H)) args s 0 0 (Rg x)) (hW : Wo D T x t (n, w, P, Q, kp) H) (hS : va_S (Rg x) s.heap H locs) (hl : lv_has ls 13 [(0, .ref x), (1, .int (e0)), (2, .int (nI pr)), (3, .int (nI ff)), (4, .int (nI oo)), (5, .int (nI kc)), (6, .int (nI wd)), (7, .long (nJ g))]) : W p l e R s m args below meth c H locs 0 0 Qq (F0 m 513 ls []) := by
  have hx := C0.1.1
  have hb := C0.1.2.1
  subst hR
  refine lv_iload_n hx hb dL_isOrder_513 rfl (lv_at hl 3 rfl) ?_
  refine mr_gt0N (x := ff) (tgt := 522) C0 dL_isOrder_514 (by decide) (by omega) (fun c514 => absurd c514 (by omega)) (fun c514 => ?_)
  clear c514
  refine lv_iload hx hb dL_isOrder_517 (lv_at hl 4 rfl) ?_
  refine mr_ne0N (x := oo) (tgt := 526) C0 dL_isOrder_519 (by decide) (by omega) (fun c519 => absurd c519 (by omega)) (fun c519 => ?_)
  clear c519
  refine lv_iconst (v := nI 1) hx hb dL_isOrder_522 (by decide) ?_
  refine lv_goto (tgt := 527) hx hb dL_isOrder_523 (by decide) ?_
  refine mr_top (y := bI true) (by decide) ?_
  exact mr_zret (b := true) C0 hr hlk hQ hS rfl hW (Nat.le_refl _) (Nat.le_refl _) dL_isOrder_527
set_option maxHeartbeats 4000000 in
set_option maxRecDepth 100000 in
theorem ctL_isOrder {l : Launch} {D : va_G} {T : Nat → ClassId} {x n t : Nat} {w : Nat → Int32} {P Q : Nat → Nat → Int32} {kp : Nat → Bool} {e0 : Int32} {r0 : Nat} (hG : Good w t) (hE : EpOk w e0 r0) :
    Ct l yL_isOrder wsL_isOrder { frames := 8, cells := 0, slots := 0, locals := 190 } 0 0 D T (Rg x) [.ref x, .int e0] (fun H => Wo D T x t (n, w, P, Q, kp) H) (some (.int (bI true))) (fun H => Wo D T x t (n, w, P, Q, kp) H) := by
  refine Ct.ofW (cc := cL_isOrder) (maxL := 13) (ret := (some .boolean)) (by decide) rfl (Nat.le_of_ble_eq_true rfl) ?_
  intro p e s m args below meth c ls R Qq hR hQ C0 hr hlk hname hW hl
  have hS : va_S (Rg x) s.heap s.heap [] := va_S.rf
  have hl : lv_has ls 13 [(0, .ref x), (1, .int e0)] := hl
  have hx := C0.1.1
  have hb := C0.1.2.1
  subst hR
  refine lv_iconst (v := nI 0) hx hb dL_isOrder_0 (by decide) ?_
  refine lv_istore_n (lv' := [(2, .int (nI 0)), (0, .ref x), (1, .int (e0))]) hx hb dL_isOrder_1 rfl hl (by decide) rfl (fun ls hl => ?_)
  refine lv_iconst (v := nI 0) hx hb dL_isOrder_2 (by decide) ?_
  refine lv_istore_n (lv' := [(3, .int (nI 0)), (2, .int (nI 0)), (0, .ref x), (1, .int (e0))]) hx hb dL_isOrder_3 rfl hl (by decide) rfl (fun ls hl => ?_)
  refine lv_iconst (v := nI 0) hx hb dL_isOrder_4 (by decide) ?_
  refine lv_istore (lv' := [(4, .int (nI 0)), (3, .int (nI 0)), (2, .int (nI 0)), (0, .ref x), (1, .int (e0))]) hx hb dL_isOrder_5 hl (by decide) rfl (fun ls hl => ?_)
  refine lv_iconst (v := nI 0) hx hb dL_isOrder_7 (by decide) ?_
  refine lv_istore (lv' := [(5, .int (nI 0)), (4, .int (nI 0)), (3, .int (nI 0)), (2, .int (nI 0)), (0, .ref x), (1, .int (e0))]) hx hb dL_isOrder_8 hl (by decide) rfl (fun ls hl => ?_)
  refine io_a C0 rfl hG hE (fun H1 locs1 ls1 hW1 hS1 hl1 => ?_) 8 0 _ _ _ rfl hW hS (lv_sub hl [4, 5, 3, 2, 1, 0] rfl)
  have hO := EpOk_ord hG hE
  have hC := Sto_ord hO
  obtain ⟨kc, g, e1, k8, el, g1, g2, n1, n2, n3, n4, n5, n6, w8, o8, p64, ff8⟩ := order_ok hG hE
  rw [pr_8 hC, fs_8 hO.2 hC, op_8] at hl1
  obtain ⟨pr, e0p⟩ : ∃ z, pairN (clo (mk w r0)) (osM w) = z := ⟨_, rfl⟩
  obtain ⟨wd, e2⟩ : ∃ z, widN (clo (mk w r0)) (osM w) = z := ⟨_, rfl⟩
  obtain ⟨ff, e3⟩ : ∃ z, pcN (fstN (clo (mk w r0)) (osM w)) = z := ⟨_, rfl⟩
  rw [e0p] at n4 n5 p64 hl1
  rw [e2] at n1 n2 n4 w8
  rw [e3] at n6 ff8 hl1
  generalize pcN (osM w) = oo at n1 n2 n3 n4 n5 n6 o8 hl1
  have s4 : ∀ (H1 : Heap) (locs1 : List Loc) (ls1 : Array Slot), Wo D T x t (n, w, P, Q, kp) H1 → va_S (Rg x) s.heap H1 locs1 → lv_has ls1 13 [(0, .ref x), (1, .int (e0)), (2, .int (nI pr)), (3, .int (nI ff)), (4, .int (nI oo)), (5, .int (nI kc)), (6, .int (nI wd)), (7, .long (nJ g))] → W p l e { frames := 8, cells := 0, slots := 0, locals := 190 } s m args below meth c H1 locs1 0 0 Qq (F0 m 513 ls1 []) := fun H1 locs1 ls1 hW1 hS1 hl1 => by
    by_cases hz : ff = 0
    · exact io_e4o C0 rfl hG hE e0p e1 e2 e3 el k8 w8 o8 p64 ff8 g1 g2 n1 n2 n3 n4 n5 n6 hz (by omega) hr hlk hQ hW1 hS1 hl1
    · exact io_e4f C0 rfl hG hE e0p e1 e2 e3 el k8 w8 o8 p64 ff8 g1 g2 n1 n2 n3 n4 n5 n6 (by omega) hr hlk hQ hW1 hS1 hl1
  have s3 : ∀ (H1 : Heap) (locs1 : List Loc) (ls1 : Array Slot), Wo D T x t (n, w, P, Q, kp) H1 → va_S (Rg x) s.heap H1 locs1 → lv_has ls1 13 [(0, .ref x), (1, .int (e0)), (2, .int (nI pr)), (3, .int (nI ff)), (4, .int (nI oo)), (5, .int (nI kc)), (6, .int (nI wd)), (7, .long (nJ g))] → W p l e { frames := 8, cells := 0, slots := 0, locals := 190 } s m args below meth c H1 locs1 0 0 Qq (F0 m 480 ls1 []) := fun H1 locs1 ls1 hW1 hS1 hl1 => by
    by_cases hz : pr = oo * (oo - 1) / 2
    · exact io_e31 C0 rfl hG hE e0p e1 e2 e3 el k8 w8 o8 p64 ff8 g1 g2 n1 n2 n3 n4 n5 n6 hz (n5.mp hz) hW1 hS1 hl1 s4
    · exact io_e3n C0 rfl hG hE e0p e1 e2 e3 el k8 w8 o8 p64 ff8 g1 g2 n1 n2 n3 n4 n5 n6 hz (fun z => hz (n5.mpr z)) hW1 hS1 hl1 s4
  have s2 : ∀ (H1 : Heap) (locs1 : List Loc) (ls1 : Array Slot), Wo D T x t (n, w, P, Q, kp) H1 → va_S (Rg x) s.heap H1 locs1 → lv_has ls1 13 [(0, .ref x), (1, .int (e0)), (2, .int (nI pr)), (3, .int (nI ff)), (4, .int (nI oo)), (5, .int (nI kc)), (6, .int (nI wd)), (7, .long (nJ g))] → W p l e { frames := 8, cells := 0, slots := 0, locals := 190 } s m args below meth c H1 locs1 0 0 Qq (F0 m 449 ls1 []) := fun H1 locs1 ls1 hW1 hS1 hl1 => by
    by_cases hz : pr = 0
    · exact io_e2z C0 rfl hG hE e0p e1 e2 e3 el k8 w8 o8 p64 ff8 g1 g2 n1 n2 n3 n4 n5 n6 hz (n4.mp hz) hW1 hS1 hl1 s3
    · exact io_e2p C0 rfl hG hE e0p e1 e2 e3 el k8 w8 o8 p64 ff8 g1 g2 n1 n2 n3 n4 n5 n6 (by omega) (fun z => hz (n4.mpr z)) hW1 hS1 hl1 s3
  have hl2 := lv_sub hl1 [0, 1, 2, 3, 4] rfl
  by_cases hz : oo = 0
  · exact io_e1z C0 rfl hG hE e0p e1 e2 e3 el k8 w8 o8 p64 ff8 g1 g2 n1 n2 n3 n4 n5 n6 hz (n3.mp hz) hW1 hS1 hl2 s2
  · exact io_e1p C0 rfl hG hE e0p e1 e2 e3 el k8 w8 o8 p64 ff8 g1 g2 n1 n2 n3 n4 n5 n6 (by omega) (by have := fun z => hz (n3.mpr z); omega) hW1 hS1 hl2 s2
