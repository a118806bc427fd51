/-! part 72: areQueues (laid by wip/p23/lay8.py) -/
def preN (w : Nat → Int32) (s k : Nat) : Nat := lp k (fun i n => n + szR w s i) 0
def qA (w : Nat → Int32) (i : Nat) : Nat := lp i (fun s n => n + cM w s) 0
def qB (w : Nat → Int32) (i : Nat) : Nat := lp i (fun s n => n + sizN w s) 0
def qC (w : Nat → Int32) (i : Nat) : Nat := lp i (fun s n => if candR w s = true then n + 1 else n) 0
theorem fFrm_lt {w : Nat → Int32} {t s a : Nat} (q : Nat) (h : a < cM w s) : fFrm w t s a q = fFr w t s a q := if_pos h
theorem fFrm_ge {w : Nat → Int32} {t s a : Nat} (q : Nat) (h : ¬ a < cM w s) : fFrm w t s a q = -9 := if_neg h
theorem num_31 {w : Nat → Int32} {t s k : Nat} (ht : t < 1000) (hG : Good w t) (hs : s < 8) (hk : k < cM w s) : numM w s k < 2 ^ 31 := by
  obtain ⟨come, -, c2, c3⟩ := hG.2.2.2.2.1
  have := (c3 s hs k hk).2
  omega
theorem e_31 {w : Nat → Int32} {t s k : Nat} (hG : Good w t) (hs : s < 8) (hk : k < cM w s) : eM w s k < 2 ^ 31 := by
  have := (ep_le hG.1 hs hk).2.1
  omega
theorem bf_31 {w : Nat → Int32} {t s k : Nat} (hG : Good w t) (hs : s < 8) (hk : k < cM w s) : bfN s w k t < 2 ^ 31 := by
  have := bf_48 hs hG hk
  omega
theorem qA_s0 {w : Nat → Int32} {s : Nat} (h : cM w s = 0) : qA w (s + 1) = qA w s := by
  show qA w s + cM w s = qA w s
  rw [h]; rfl
theorem qC_t {w : Nat → Int32} {s : Nat} (h : candR w s = true) : qC w s + 1 = qC w (s + 1) := (if_pos h).symm
theorem qC_f {w : Nat → Int32} {s : Nat} (h : candR w s = false) : qC w s = qC w (s + 1) := (if_neg (by rw [h]; decide)).symm
set_option maxHeartbeats 4000000 in
set_option maxRecDepth 100000 in
theorem aq_in {p : Program} {l : Launch} {e : Env} {R : Room} {s : State} {m : MethodId} {args : Array Value} {below : List Frame} {meth : Method} {c : Code} {Qq : State → Prop} {D : va_G} {T : Nat → ClassId} {H0 : Heap} {x n t : Nat} {w : Nat → Int32} {P Q : Nat → Nat → Int32} {kp : Nat → Bool} {s0 a1 a2 a3 : Nat} (C0 : Cx p s m args c cL_areQueues 8 wsL_areQueues RL D T) (hR : R = { frames := 8, cells := 0, slots := 0, locals := 190 }) (ht : t < 1000) (hG : Good w t) (hE : Ex w) (hs : s0 < 8)
    (kk : ∀ (H1 : Heap) (locs1 : List Loc) (ls1 : Array Slot), Wo D T x t (n, w, P, Q, kp) H1 → va_S (Rg x) H0 H1 locs1 → lv_has ls1 8 [(0, .ref x), (1, .int (nI a1)), (2, .int (nI a2)), (3, .int (nI a3)), (4, .int (nI s0)), (5, .int (nI (cM w s0))), (6, .int (nI (preN w s0 (cM w s0)))), (7, .int (nI (cM w s0)))] → W p l e R s m args below meth c H1 locs1 0 0 Qq (F0 m 134 ls1 [])) :
    ∀ (r k : Nat) (H : Heap) (locs : List Loc) (ls : Array Slot), k + r = cM w s0 → Wo D T x t (n, w, P, Q, kp) H → va_S (Rg x) H0 H locs → lv_has ls 8 [(0, .ref x), (1, .int (nI a1)), (2, .int (nI a2)), (3, .int (nI a3)), (4, .int (nI s0)), (5, .int (nI (cM w s0))), (6, .int (nI (preN w s0 k))), (7, .int (nI k))] → W p l e R s m args below meth c H locs 0 0 Qq (F0 m 31 ls []) := by
  have hx := C0.1.1
  have hb := C0.1.2.1
  subst hR
  have hc6 := cM_le hG.1 hs
  intro r
  induction r with
  | zero =>
    intro k H locs ls hk hW hS hl
    have e : k = cM w s0 := by omega
    subst e
    refine lv_iload hx hb dL_areQueues_31 (lv_at hl 7 rfl) ?_
    refine lv_iload hx hb dL_areQueues_33 (lv_at hl 5 rfl) ?_
    refine mr_geN (x := cM w s0) (y := cM w s0) (tgt := 134) C0 dL_areQueues_35 (by decide) (by omega) (by omega) (fun c => ?_) (fun c => absurd c (by omega))
    exact kk _ _ _ hW hS hl
  | succ r ih =>
    intro k H locs ls hk hW hS hl
    cases k with
    | zero =>
      refine lv_iload hx hb dL_areQueues_31 (lv_at hl 7 rfl) ?_
      refine lv_iload hx hb dL_areQueues_33 (lv_at hl 5 rfl) ?_
      refine mr_geN (x := 0) (y := cM w s0) (tgt := 134) C0 dL_areQueues_35 (by decide) (by omega) (by omega) (fun c35 => absurd c35 (by omega)) (fun c35 => ?_)
      clear c35
      refine lv_iload hx hb dL_areQueues_38 (lv_at hl 6 rfl) ?_
      refine lv_aload_n hx hb dL_areQueues_40 rfl (lv_at hl 0 rfl) ?_
      refine lv_iload hx hb dL_areQueues_41 (lv_at hl 4 rfl) ?_
      refine lv_iload hx hb dL_areQueues_43 (lv_at hl 7 rfl) ?_
      refine lv_iconst (v := nI 1) hx hb dL_areQueues_45 (by decide) ?_
      refine mo_call (x := x) (As := [.int (nI s0), .int (nI 0), .int (nI 1)]) (rest := [.int (nI (preN w s0 0))]) (st1 := [.int (fFrm w t s0 0 1), .int (nI (preN w s0 0))]) C0 (op_frame hs (by omega) (by decide)) hW (fun rm x1 x2 x3 x4 => cwV 3 C0.1.2.2.2.2 gL_areQueues_X3_frame rfl x1 x2 (by decide +kernel) ⟨by show _ ≤ 8; omega, by show _ ≤ 190; omega⟩) hS (fun _ h => h) rfl rfl rfl hl.1 (Nat.le_of_ble_eq_true rfl) dL_areQueues_46 ⟨Nat.le_of_ble_eq_true rfl, Nat.le_of_ble_eq_true rfl⟩ (fun H1 locs1 hW hF hS1 => ?_)
      clear hS
      have hS := hS1
      clear hS1 hF
      refine mr_top (y := nI (szR w s0 0)) ((fFrm_lt 1 (by omega)).trans (fFr_1 _ _ _ _)) ?_
      refine mr_iaddN (z := preN w s0 (0 + 1)) C0 (rfl) dL_areQueues_49 ?_
      refine lv_istore (lv' := [(6, .int (nI (preN w s0 (0 + 1)))), (0, .ref x), (1, .int (nI a1)), (2, .int (nI a2)), (3, .int (nI a3)), (4, .int (nI s0)), (5, .int (nI (cM w s0))), (7, .int (nI 0))]) hx hb dL_areQueues_50 hl (by decide) rfl (fun ls hl => ?_)
      refine lv_iload hx hb dL_areQueues_52 (lv_at hl 7 rfl) ?_
      refine mr_le0N (x := 0) (tgt := 128) C0 dL_areQueues_54 (by decide) (by omega) (fun c54 => ?_) (fun c54 => absurd c54 (by omega))
      clear c54
      refine lv_iinc (k := 7) (v := nI (0 + 1)) (lv' := [(7, .int (nI (0 + 1))), (6, .int (nI (preN w s0 (0 + 1)))), (0, .ref x), (1, .int (nI a1)), (2, .int (nI a2)), (3, .int (nI a3)), (4, .int (nI s0)), (5, .int (nI (cM w s0)))]) hx hb dL_areQueues_128 hl rfl (by rw [show Int32.ofInt 1 = nI 1 from by decide, nI_add]) (by decide) rfl (fun ls hl => ?_)
      refine lv_goto (tgt := 31) hx hb dL_areQueues_131 (by decide) ?_
      exact ih (0 + 1) _ _ _ (by omega) hW hS (lv_sub hl [2, 3, 4, 5, 6, 7, 1, 0] rfl)
    | succ k' =>
      refine lv_iload hx hb dL_areQueues_31 (lv_at hl 7 rfl) ?_
      refine lv_iload hx hb dL_areQueues_33 (lv_at hl 5 rfl) ?_
      refine mr_geN (x := k' + 1) (y := cM w s0) (tgt := 134) C0 dL_areQueues_35 (by decide) (by omega) (by omega) (fun c35 => absurd c35 (by omega)) (fun c35 => ?_)
      clear c35
      refine lv_iload hx hb dL_areQueues_38 (lv_at hl 6 rfl) ?_
      refine lv_aload_n hx hb dL_areQueues_40 rfl (lv_at hl 0 rfl) ?_
      refine lv_iload hx hb dL_areQueues_41 (lv_at hl 4 rfl) ?_
      refine lv_iload hx hb dL_areQueues_43 (lv_at hl 7 rfl) ?_
      refine lv_iconst (v := nI 1) hx hb dL_areQueues_45 (by decide) ?_
      refine mo_call (x := x) (As := [.int (nI s0), .int (nI (k' + 1)), .int (nI 1)]) (rest := [.int (nI (preN w s0 (k' + 1)))]) (st1 := [.int (fFrm w t s0 (k' + 1) 1), .int (nI (preN w s0 (k' + 1)))]) C0 (op_frame hs (by omega) (by decide)) hW (fun rm x1 x2 x3 x4 => cwV 3 C0.1.2.2.2.2 gL_areQueues_X3_frame rfl x1 x2 (by decide +kernel) ⟨by show _ ≤ 8; omega, by show _ ≤ 190; omega⟩) hS (fun _ h => h) rfl rfl rfl hl.1 (Nat.le_of_ble_eq_true rfl) dL_areQueues_46 ⟨Nat.le_of_ble_eq_true rfl, Nat.le_of_ble_eq_true rfl⟩ (fun H1 locs1 hW hF hS1 => ?_)
      clear hS
      have hS := hS1
      clear hS1 hF
      refine mr_top (y := nI (szR w s0 (k' + 1))) ((fFrm_lt 1 (show k' + 1 < cM w s0 by omega)).trans (fFr_1 _ _ _ _)) ?_
      refine mr_iaddN (z := preN w s0 ((k' + 1) + 1)) C0 (rfl) dL_areQueues_49 ?_
      refine lv_istore (lv' := [(6, .int (nI (preN w s0 ((k' + 1) + 1)))), (0, .ref x), (1, .int (nI a1)), (2, .int (nI a2)), (3, .int (nI a3)), (4, .int (nI s0)), (5, .int (nI (cM w s0))), (7, .int (nI (k' + 1)))]) hx hb dL_areQueues_50 hl (by decide) rfl (fun ls hl => ?_)
      refine lv_iload hx hb dL_areQueues_52 (lv_at hl 7 rfl) ?_
      refine mr_le0N (x := k' + 1) (tgt := 128) C0 dL_areQueues_54 (by decide) (by omega) (fun c54 => absurd c54 (by omega)) (fun c54 => ?_)
      clear c54
      refine lv_aload_n hx hb dL_areQueues_57 rfl (lv_at hl 1 rfl) ?_
      refine lv_iload hx hb dL_areQueues_58 (lv_at hl 5 rfl) ?_
      refine lv_iload hx hb dL_areQueues_60 (lv_at hl 7 rfl) ?_
      refine lv_iconst (v := nI 0) hx hb dL_areQueues_62 (by decide) ?_
      refine mo_call (x := x) (As := [.int (nI s0), .int (nI (k' + 1)), .int (nI 0)]) (rest := []) (st1 := [.int (fFrm w t s0 (k' + 1) 0)]) C0 (op_frame hs (by omega) (by decide)) hW (fun rm x1 x2 x3 x4 => cwV 3 C0.1.2.2.2.2 gL_areQueues_X3_frame rfl x1 x2 (by decide +kernel) ⟨by show _ ≤ 8; omega, by show _ ≤ 190; omega⟩) hS (fun _ h => h) rfl rfl rfl hl.1 (Nat.le_of_ble_eq_true rfl) dL_areQueues_63 ⟨Nat.le_of_ble_eq_true rfl, Nat.le_of_ble_eq_true rfl⟩ (fun H1 locs1 hW hF hS1 => ?_)
      clear hS
      have hS := hS1
      clear hS1 hF
      refine mr_top (y := nI (numM w s0 (k' + 1))) ((fFrm_lt 0 (show k' + 1 < cM w s0 by omega)).trans (fFr_0 _ _ _ _)) ?_
      refine lv_aload_n hx hb dL_areQueues_66 rfl (lv_at hl 1 rfl) ?_
      refine lv_iload hx hb dL_areQueues_67 (lv_at hl 5 rfl) ?_
      refine lv_iload hx hb dL_areQueues_69 (lv_at hl 7 rfl) ?_
      refine lv_iconst (v := nI 1) hx hb dL_areQueues_71 (by decide) ?_
      refine mr_isubN (z := k') C0 (rfl) dL_areQueues_72 ?_
      refine lv_iconst (v := nI 0) hx hb dL_areQueues_73 (by decide) ?_
      refine mo_call (x := x) (As := [.int (nI s0), .int (nI k'), .int (nI 0)]) (rest := [.int (nI (numM w s0 (k' + 1)))]) (st1 := [.int (fFrm w t s0 k' 0), .int (nI (numM w s0 (k' + 1)))]) C0 (op_frame hs (by omega) (by decide)) hW (fun rm x1 x2 x3 x4 => cwV 3 C0.1.2.2.2.2 gL_areQueues_X3_frame rfl x1 x2 (by decide +kernel) ⟨by show _ ≤ 8; omega, by show _ ≤ 190; omega⟩) hS (fun _ h => h) rfl rfl rfl hl.1 (Nat.le_of_ble_eq_true rfl) dL_areQueues_74 ⟨Nat.le_of_ble_eq_true rfl, Nat.le_of_ble_eq_true rfl⟩ (fun H1 locs1 hW hF hS1 => ?_)
      clear hS
      have hS := hS1
      clear hS1 hF
      refine mr_top (y := nI (numM w s0 k')) ((fFrm_lt 0 (show k' < cM w s0 by omega)).trans (fFr_0 _ _ _ _)) ?_
      refine mr_leN (x := numM w s0 (k' + 1)) (y := numM w s0 k') (tgt := 126) C0 dL_areQueues_77 (by decide) (num_31 ht hG hs (show k' + 1 < cM w s0 by omega)) (num_31 ht hG hs (show k' < cM w s0 by omega)) (fun c77 => absurd c77 (by have := hE.1 s0 hs k' (by omega); omega)) (fun c77 => ?_)
      clear c77
      refine lv_aload_n hx hb dL_areQueues_80 rfl (lv_at hl 1 rfl) ?_
      refine lv_iload hx hb dL_areQueues_81 (lv_at hl 5 rfl) ?_
      refine lv_iload hx hb dL_areQueues_83 (lv_at hl 7 rfl) ?_
      refine lv_iconst (v := nI 2) hx hb dL_areQueues_85 (by decide) ?_
      refine mo_call (x := x) (As := [.int (nI s0), .int (nI (k' + 1)), .int (nI 2)]) (rest := []) (st1 := [.int (fFrm w t s0 (k' + 1) 2)]) C0 (op_frame hs (by omega) (by decide)) hW (fun rm x1 x2 x3 x4 => cwV 3 C0.1.2.2.2.2 gL_areQueues_X3_frame rfl x1 x2 (by decide +kernel) ⟨by show _ ≤ 8; omega, by show _ ≤ 190; omega⟩) hS (fun _ h => h) rfl rfl rfl hl.1 (Nat.le_of_ble_eq_true rfl) dL_areQueues_86 ⟨Nat.le_of_ble_eq_true rfl, Nat.le_of_ble_eq_true rfl⟩ (fun H1 locs1 hW hF hS1 => ?_)
      clear hS
      have hS := hS1
      clear hS1 hF
      refine mr_top (y := nI (eM w s0 (k' + 1))) ((fFrm_lt 2 (show k' + 1 < cM w s0 by omega)).trans (fFr_2 _ _ _ _)) ?_
      refine lv_aload_n hx hb dL_areQueues_89 rfl (lv_at hl 1 rfl) ?_
      refine lv_iload hx hb dL_areQueues_90 (lv_at hl 5 rfl) ?_
      refine lv_iload hx hb dL_areQueues_92 (lv_at hl 7 rfl) ?_
      refine lv_iconst (v := nI 1) hx hb dL_areQueues_94 (by decide) ?_
      refine mr_isubN (z := k') C0 (rfl) dL_areQueues_95 ?_
      refine lv_iconst (v := nI 2) hx hb dL_areQueues_96 (by decide) ?_
      refine mo_call (x := x) (As := [.int (nI s0), .int (nI k'), .int (nI 2)]) (rest := [.int (nI (eM w s0 (k' + 1)))]) (st1 := [.int (fFrm w t s0 k' 2), .int (nI (eM w s0 (k' + 1)))]) C0 (op_frame hs (by omega) (by decide)) hW (fun rm x1 x2 x3 x4 => cwV 3 C0.1.2.2.2.2 gL_areQueues_X3_frame rfl x1 x2 (by decide +kernel) ⟨by show _ ≤ 8; omega, by show _ ≤ 190; omega⟩) hS (fun _ h => h) rfl rfl rfl hl.1 (Nat.le_of_ble_eq_true rfl) dL_areQueues_97 ⟨Nat.le_of_ble_eq_true rfl, Nat.le_of_ble_eq_true rfl⟩ (fun H1 locs1 hW hF hS1 => ?_)
      clear hS
      have hS := hS1
      clear hS1 hF
      refine mr_top (y := nI (eM w s0 k')) ((fFrm_lt 2 (show k' < cM w s0 by omega)).trans (fFr_2 _ _ _ _)) ?_
      refine mr_ltN (x := eM w s0 (k' + 1)) (y := eM w s0 k') (tgt := 126) C0 dL_areQueues_100 (by decide) (e_31 hG hs (show k' + 1 < cM w s0 by omega)) (e_31 hG hs (show k' < cM w s0 by omega)) (fun c100 => absurd c100 (by have := hG.2.2.2.1 s0 hs k' (by omega); omega)) (fun c100 => ?_)
      clear c100
      refine lv_aload_n hx hb dL_areQueues_103 rfl (lv_at hl 1 rfl) ?_
      refine lv_iload hx hb dL_areQueues_104 (lv_at hl 5 rfl) ?_
      refine lv_iload hx hb dL_areQueues_106 (lv_at hl 7 rfl) ?_
      refine lv_iconst (v := nI 3) hx hb dL_areQueues_108 (by decide) ?_
      refine mo_call (x := x) (As := [.int (nI s0), .int (nI (k' + 1)), .int (nI 3)]) (rest := []) (st1 := [.int (fFrm w t s0 (k' + 1) 3)]) C0 (op_frame hs (by omega) (by decide)) hW (fun rm x1 x2 x3 x4 => cwV 3 C0.1.2.2.2.2 gL_areQueues_X3_frame rfl x1 x2 (by decide +kernel) ⟨by show _ ≤ 8; omega, by show _ ≤ 190; omega⟩) hS (fun _ h => h) rfl rfl rfl hl.1 (Nat.le_of_ble_eq_true rfl) dL_areQueues_109 ⟨Nat.le_of_ble_eq_true rfl, Nat.le_of_ble_eq_true rfl⟩ (fun H1 locs1 hW hF hS1 => ?_)
      clear hS
      have hS := hS1
      clear hS1 hF
      refine mr_top (y := nI (bfN s0 w (k' + 1) t)) ((fFrm_lt 3 (show k' + 1 < cM w s0 by omega)).trans (fFr_3 _ _ _ _)) ?_
      refine lv_aload_n hx hb dL_areQueues_112 rfl (lv_at hl 1 rfl) ?_
      refine lv_iload hx hb dL_areQueues_113 (lv_at hl 5 rfl) ?_
      refine lv_iload hx hb dL_areQueues_115 (lv_at hl 7 rfl) ?_
      refine lv_iconst (v := nI 1) hx hb dL_areQueues_117 (by decide) ?_
      refine mr_isubN (z := k') C0 (rfl) dL_areQueues_118 ?_
      refine lv_iconst (v := nI 3) hx hb dL_areQueues_119 (by decide) ?_
      refine mo_call (x := x) (As := [.int (nI s0), .int (nI k'), .int (nI 3)]) (rest := [.int (nI (bfN s0 w (k' + 1) t))]) (st1 := [.int (fFrm w t s0 k' 3), .int (nI (bfN s0 w (k' + 1) t))]) C0 (op_frame hs (by omega) (by decide)) hW (fun rm x1 x2 x3 x4 => cwV 3 C0.1.2.2.2.2 gL_areQueues_X3_frame rfl x1 x2 (by decide +kernel) ⟨by show _ ≤ 8; omega, by show _ ≤ 190; omega⟩) hS (fun _ h => h) rfl rfl rfl hl.1 (Nat.le_of_ble_eq_true rfl) dL_areQueues_120 ⟨Nat.le_of_ble_eq_true rfl, Nat.le_of_ble_eq_true rfl⟩ (fun H1 locs1 hW hF hS1 => ?_)
      clear hS
      have hS := hS1
      clear hS1 hF
      refine mr_top (y := nI (bfN s0 w k' t)) ((fFrm_lt 3 (show k' < cM w s0 by omega)).trans (fFr_3 _ _ _ _)) ?_
      refine mr_gtN (x := bfN s0 w (k' + 1) t) (y := bfN s0 w k' t) (tgt := 128) C0 dL_areQueues_123 (by decide) (bf_31 hG hs (show k' + 1 < cM w s0 by omega)) (bf_31 hG hs (show k' < cM w s0 by omega)) (fun c123 => ?_) (fun c123 => absurd c123 (by have := bf_mono hs hG (show k' + 1 < cM w s0 by omega); omega))
      clear c123
      refine lv_iinc (k := 7) (v := nI (k' + 1 + 1)) (lv' := [(7, .int (nI (k' + 1 + 1))), (6, .int (nI (preN w s0 ((k' + 1) + 1)))), (0, .ref x), (1, .int (nI a1)), (2, .int (nI a2)), (3, .int (nI a3)), (4, .int (nI s0)), (5, .int (nI (cM w s0)))]) hx hb dL_areQueues_128 hl rfl (by rw [show Int32.ofInt 1 = nI 1 from by decide, nI_add]) (by decide) rfl (fun ls hl => ?_)
      refine lv_goto (tgt := 31) hx hb dL_areQueues_131 (by decide) ?_
      exact ih ((k' + 1) + 1) _ _ _ (by omega) hW hS (lv_sub hl [2, 3, 4, 5, 6, 7, 1, 0] rfl)
set_option maxHeartbeats 4000000 in
set_option maxRecDepth 100000 in
theorem aq_a {p : Program} {l : Launch} {e : Env} {R : Room} {s : State} {m : MethodId} {args : Array Value} {below : List Frame} {meth : Method} {c : Code} {Qq : State → Prop} {D : va_G} {T : Nat → ClassId} {H0 : Heap} {x n t : Nat} {w : Nat → Int32} {P Q : Nat → Nat → Int32} {kp : Nat → Bool} {s0 : Nat} {H : Heap} {locs : List Loc} {ls : Array Slot} (C0 : Cx p s m args c cL_areQueues 8 wsL_areQueues RL D T) (hR : R = { frames := 8, cells := 0, slots := 0, locals := 190 }) (ht : t < 1000) (hG : Good w t) (hE : Ex w) (hs : s0 < 8) (h0 : cM w s0 = 0) (hcd : candR w s0 = false) (hW : Wo D T x t (n, w, P, Q, kp) H) (hS : va_S (Rg x) H0 H locs) (hl : lv_has ls 8 [(0, .ref x), (1, .int (nI (qA w s0))), (2, .int (nI (qB w s0))), (3, .int (nI (qC w s0))), (4, .int (nI s0)), (5, .int (nI (cM w s0))), (6, .int (nI (preN w s0 (cM w s0)))), (7, .int (nI (cM w s0)))])
    (kk : ∀ (H1 : Heap) (locs1 : List Loc) (ls1 : Array Slot), Wo D T x t (n, w, P, Q, kp) H1 → va_S (Rg x) H0 H1 locs1 → lv_has ls1 8 [(0, .ref x), (1, .int (nI (qA w (s0 + 1)))), (2, .int (nI (qB w (s0 + 1)))), (3, .int (nI (qC w (s0 + 1)))), (4, .int (nI (s0 + 1)))] → W p l e R s m args below meth c H1 locs1 0 0 Qq (F0 m 9 ls1 [])) : W p l e R s m args below meth c H locs 0 0 Qq (F0 m 134 ls []) := by
  have hx := C0.1.1
  have hb := C0.1.2.1
  subst hR
  have hc6 := cM_le hG.1 hs
  refine lv_iload_n hx hb dL_areQueues_134 rfl (lv_at hl 1 rfl) ?_
  refine lv_iload hx hb dL_areQueues_135 (lv_at hl 5 rfl) ?_
  refine mr_iaddN (z := qA w (s0 + 1)) C0 (rfl) dL_areQueues_137 ?_
  refine lv_istore_n (lv' := [(1, .int (nI (qA w (s0 + 1)))), (0, .ref x), (2, .int (nI (qB w s0))), (3, .int (nI (qC w s0))), (4, .int (nI s0)), (5, .int (nI (cM w s0))), (6, .int (nI (preN w s0 (cM w s0)))), (7, .int (nI (cM w s0)))]) hx hb dL_areQueues_138 rfl hl (by decide) rfl (fun ls hl => ?_)
  refine lv_iload_n hx hb dL_areQueues_139 rfl (lv_at hl 2 rfl) ?_
  refine lv_iload hx hb dL_areQueues_140 (lv_at hl 6 rfl) ?_
  refine mr_iaddN (z := qB w (s0 + 1)) C0 (rfl) dL_areQueues_142 ?_
  refine lv_istore_n (lv' := [(2, .int (nI (qB w (s0 + 1)))), (1, .int (nI (qA w (s0 + 1)))), (0, .ref x), (3, .int (nI (qC w s0))), (4, .int (nI s0)), (5, .int (nI (cM w s0))), (6, .int (nI (preN w s0 (cM w s0)))), (7, .int (nI (cM w s0)))]) hx hb dL_areQueues_143 rfl hl (by decide) rfl (fun ls hl => ?_)
  refine lv_aload_n hx hb dL_areQueues_144 rfl (lv_at hl 2 rfl) ?_
  refine lv_iload hx hb dL_areQueues_145 (lv_at hl 4 rfl) ?_
  refine lv_iconst (v := nI 5) hx hb dL_areQueues_147 (by decide) ?_
  refine mo_call (x := x) (As := [.int (nI s0), .int (nI 5)]) (rest := []) (st1 := [.int (fStrm w t s0 5)]) C0 (op_stream hs (by decide)) hW (fun rm x1 x2 x3 x4 => cwV 2 C0.1.2.2.2.2 gL_areQueues_X3_stream rfl x1 x2 (by decide +kernel) ⟨by show _ ≤ 8; omega, by show _ ≤ 190; omega⟩) hS (fun _ h => h) rfl rfl rfl hl.1 (Nat.le_of_ble_eq_true rfl) dL_areQueues_148 ⟨Nat.le_of_ble_eq_true rfl, Nat.le_of_ble_eq_true rfl⟩ (fun H1 locs1 hW hF hS1 => ?_)
  clear hS
  have hS := hS1
  clear hS1 hF
  refine mr_top (y := -9) ((fStrm_5 w t s0).trans (if_pos h0)) ?_
  refine lv_iconst (v := nI 1) hx hb dL_areQueues_151 (by decide) ?_
  refine lv_icmp_ne (tgt := 161) hx hb dL_areQueues_152 (by decide) (fun c152 => ?_) (fun c152 => absurd c152 (by decide))
  clear c152
  refine lv_iload_n hx hb dL_areQueues_161 rfl (lv_at hl 3 rfl) ?_
  refine mr_top (y := nI (qC w (s0 + 1))) (congrArg nI (qC_f hcd)) ?_
  refine lv_istore_n (lv' := [(3, .int (nI (qC w (s0 + 1)))), (2, .int (nI (qB w (s0 + 1)))), (1, .int (nI (qA w (s0 + 1)))), (0, .ref x), (4, .int (nI s0)), (5, .int (nI (cM w s0))), (6, .int (nI (preN w s0 (cM w s0)))), (7, .int (nI (cM w s0)))]) hx hb dL_areQueues_162 rfl hl (by decide) rfl (fun ls hl => ?_)
  refine lv_iload hx hb dL_areQueues_163 (lv_at hl 6 rfl) ?_
  refine lv_aload_n hx hb dL_areQueues_165 rfl (lv_at hl 3 rfl) ?_
  refine lv_iload hx hb dL_areQueues_166 (lv_at hl 4 rfl) ?_
  refine lv_iconst (v := nI 4) hx hb dL_areQueues_168 (by decide) ?_
  refine mo_call (x := x) (As := [.int (nI s0), .int (nI 4)]) (rest := [.int (nI (preN w s0 (cM w s0)))]) (st1 := [.int (fStrm w t s0 4), .int (nI (preN w s0 (cM w s0)))]) C0 (op_stream hs (by decide)) hW (fun rm x1 x2 x3 x4 => cwV 2 C0.1.2.2.2.2 gL_areQueues_X3_stream rfl x1 x2 (by decide +kernel) ⟨by show _ ≤ 8; omega, by show _ ≤ 190; omega⟩) hS (fun _ h => h) rfl rfl rfl hl.1 (Nat.le_of_ble_eq_true rfl) dL_areQueues_169 ⟨Nat.le_of_ble_eq_true rfl, Nat.le_of_ble_eq_true rfl⟩ (fun H1 locs1 hW hF hS1 => ?_)
  clear hS
  have hS := hS1
  clear hS1 hF
  refine mr_top (y := nI (preN w s0 (cM w s0))) (fStrm_4 w t s0) ?_
  refine lv_icmp_ne (tgt := 228) hx hb dL_areQueues_172 (by decide) (fun c172 => absurd rfl c172) (fun c172 => ?_)
  clear c172
  refine lv_aload_n hx hb dL_areQueues_175 rfl (lv_at hl 3 rfl) ?_
  refine lv_iload hx hb dL_areQueues_176 (lv_at hl 4 rfl) ?_
  refine lv_iload hx hb dL_areQueues_178 (lv_at hl 5 rfl) ?_
  refine lv_iconst (v := nI 0) hx hb dL_areQueues_180 (by decide) ?_
  refine mo_call (x := x) (As := [.int (nI s0), .int (nI (cM w s0)), .int (nI 0)]) (rest := []) (st1 := [.int (fFrm w t s0 (cM w s0) 0)]) C0 (op_frame hs (by omega) (by decide)) hW (fun rm x1 x2 x3 x4 => cwV 3 C0.1.2.2.2.2 gL_areQueues_X3_frame rfl x1 x2 (by decide +kernel) ⟨by show _ ≤ 8; omega, by show _ ≤ 190; omega⟩) hS (fun _ h => h) rfl rfl rfl hl.1 (Nat.le_of_ble_eq_true rfl) dL_areQueues_181 ⟨Nat.le_of_ble_eq_true rfl, Nat.le_of_ble_eq_true rfl⟩ (fun H1 locs1 hW hF hS1 => ?_)
  clear hS
  have hS := hS1
  clear hS1 hF
  refine mr_top (y := -9) (fFrm_ge 0 (Nat.lt_irrefl _)) ?_
  refine lv_bipush (v := -9) hx hb dL_areQueues_184 (by decide) ?_
  refine lv_icmp_ne (tgt := 228) hx hb dL_areQueues_186 (by decide) (fun c186 => absurd rfl c186) (fun c186 => ?_)
  clear c186
  refine lv_iload hx hb dL_areQueues_189 (lv_at hl 5 rfl) ?_
  refine mr_eq0N (x := cM w s0) (tgt := 224) C0 dL_areQueues_191 (by decide) (by omega) (fun c191 => ?_) (fun c191 => absurd c191 (by omega))
  clear c191
  refine lv_iconst (v := nI 1) hx hb dL_areQueues_224 (by decide) ?_
  refine lv_goto (tgt := 229) hx hb dL_areQueues_225 (by decide) ?_
  refine lv_istore (lv' := [(7, .int (nI 1)), (3, .int (nI (qC w (s0 + 1)))), (2, .int (nI (qB w (s0 + 1)))), (1, .int (nI (qA w (s0 + 1)))), (0, .ref x), (4, .int (nI s0)), (5, .int (nI (cM w s0))), (6, .int (nI (preN w s0 (cM w s0))))]) hx hb dL_areQueues_229 hl (by decide) rfl (fun ls hl => ?_)
  refine lv_iload hx hb dL_areQueues_231 (lv_at hl 0 rfl) ?_
  refine mr_eq0N (x := 1) (tgt := 294) C0 dL_areQueues_233 (by decide) (by decide) (fun c233 => absurd c233 (by omega)) (fun c233 => ?_)
  clear c233
  refine lv_iload hx hb dL_areQueues_236 (lv_at hl 6 rfl) ?_
  refine mr_le0N (x := cM w s0) (tgt := 276) C0 dL_areQueues_238 (by decide) (by omega) (fun c238 => ?_) (fun c238 => absurd c238 (by omega))
  clear c238
  refine lv_iload hx hb dL_areQueues_276 (lv_at hl 6 rfl) ?_
  refine mr_ne0N (x := cM w s0) (tgt := 296) C0 dL_areQueues_278 (by decide) (by omega) (fun c278 => absurd c278 (by omega)) (fun c278 => ?_)
  clear c278
  refine lv_aload_n hx hb dL_areQueues_281 rfl (lv_at hl 4 rfl) ?_
  refine lv_iload hx hb dL_areQueues_282 (lv_at hl 5 rfl) ?_
  refine lv_bipush (v := nI 7) hx hb dL_areQueues_284 (by decide) ?_
  refine mo_call (x := x) (As := [.int (nI s0), .int (nI 7)]) (rest := []) (st1 := [.int (fStrm w t s0 7)]) C0 (op_stream hs (by decide)) hW (fun rm x1 x2 x3 x4 => cwV 2 C0.1.2.2.2.2 gL_areQueues_X3_stream rfl x1 x2 (by decide +kernel) ⟨by show _ ≤ 8; omega, by show _ ≤ 190; omega⟩) hS (fun _ h => h) rfl rfl rfl hl.1 (Nat.le_of_ble_eq_true rfl) dL_areQueues_286 ⟨Nat.le_of_ble_eq_true rfl, Nat.le_of_ble_eq_true rfl⟩ (fun H1 locs1 hW hF hS1 => ?_)
  clear hS
  have hS := hS1
  clear hS1 hF
  refine mr_top (y := -9) ((fStrm_7 w t s0).trans (if_pos h0)) ?_
  refine lv_bipush (v := -9) hx hb dL_areQueues_289 (by decide) ?_
  refine lv_icmp_eq (tgt := 296) hx hb dL_areQueues_291 (by decide) (fun c291 => ?_) (fun c291 => absurd rfl c291)
  clear c291
  refine lv_iinc (k := 5) (v := nI (s0 + 1)) (lv' := [(4, .int (nI (s0 + 1))), (7, .int (nI 1)), (3, .int (nI (qC w (s0 + 1)))), (2, .int (nI (qB w (s0 + 1)))), (1, .int (nI (qA w (s0 + 1)))), (0, .ref x), (5, .int (nI (cM w s0))), (6, .int (nI (preN w s0 (cM w s0))))]) hx hb dL_areQueues_296 hl rfl (by rw [show Int32.ofInt 1 = nI 1 from by decide, nI_add]) (by decide) rfl (fun ls hl => ?_)
  refine lv_goto (tgt := 9) hx hb dL_areQueues_299 (by decide) ?_
  exact kk _ _ _ hW hS (lv_sub hl [5, 4, 3, 2, 0] rfl)
set_option maxHeartbeats 4000000 in
set_option maxRecDepth 100000 in
theorem aq_b {p : Program} {l : Launch} {e : Env} {R : Room} {s : State} {m : MethodId} {args : Array Value} {below : List Frame} {meth : Method} {c : Code} {Qq : State → Prop} {D : va_G} {T : Nat → ClassId} {H0 : Heap} {x n t : Nat} {w : Nat → Int32} {P Q : Nat → Nat → Int32} {kp : Nat → Bool} {s0 : Nat} {H : Heap} {locs : List Loc} {ls : Array Slot} (C0 : Cx p s m args c cL_areQueues 8 wsL_areQueues RL D T) (hR : R = { frames := 8, cells := 0, slots := 0, locals := 190 }) (ht : t < 1000) (hG : Good w t) (hE : Ex w) (hs : s0 < 8) (h0 : 0 < cM w s0) (hcd : candR w s0 = true) (hW : Wo D T x t (n, w, P, Q, kp) H) (hS : va_S (Rg x) H0 H locs) (hl : lv_has ls 8 [(0, .ref x), (1, .int (nI (qA w s0))), (2, .int (nI (qB w s0))), (3, .int (nI (qC w s0))), (4, .int (nI s0)), (5, .int (nI (cM w s0))), (6, .int (nI (preN w s0 (cM w s0)))), (7, .int (nI (cM w s0)))])
    (kk : ∀ (H1 : Heap) (locs1 : List Loc) (ls1 : Array Slot), Wo D T x t (n, w, P, Q, kp) H1 → va_S (Rg x) H0 H1 locs1 → lv_has ls1 8 [(0, .ref x), (1, .int (nI (qA w (s0 + 1)))), (2, .int (nI (qB w (s0 + 1)))), (3, .int (nI (qC w (s0 + 1)))), (4, .int (nI (s0 + 1)))] → W p l e R s m args below meth c H1 locs1 0 0 Qq (F0 m 9 ls1 [])) : W p l e R s m args below meth c H locs 0 0 Qq (F0 m 134 ls []) := by
  have hx := C0.1.1
  have hb := C0.1.2.1
  subst hR
  have hc6 := cM_le hG.1 hs
  refine lv_iload_n hx hb dL_areQueues_134 rfl (lv_at hl 1 rfl) ?_
  refine lv_iload hx hb dL_areQueues_135 (lv_at hl 5 rfl) ?_
  refine mr_iaddN (z := qA w (s0 + 1)) C0 (rfl) dL_areQueues_137 ?_
  refine lv_istore_n (lv' := [(1, .int (nI (qA w (s0 + 1)))), (0, .ref x), (2, .int (nI (qB w s0))), (3, .int (nI (qC w s0))), (4, .int (nI s0)), (5, .int (nI (cM w s0))), (6, .int (nI (preN w s0 (cM w s0)))), (7, .int (nI (cM w s0)))]) hx hb dL_areQueues_138 rfl hl (by decide) rfl (fun ls hl => ?_)
  refine lv_iload_n hx hb dL_areQueues_139 rfl (lv_at hl 2 rfl) ?_
  refine lv_iload hx hb dL_areQueues_140 (lv_at hl 6 rfl) ?_
  refine mr_iaddN (z := qB w (s0 + 1)) C0 (rfl) dL_areQueues_142 ?_
  refine lv_istore_n (lv' := [(2, .int (nI (qB w (s0 + 1)))), (1, .int (nI (qA w (s0 + 1)))), (0, .ref x), (3, .int (nI (qC w s0))), (4, .int (nI s0)), (5, .int (nI (cM w s0))), (6, .int (nI (preN w s0 (cM w s0)))), (7, .int (nI (cM w s0)))]) hx hb dL_areQueues_143 rfl hl (by decide) rfl (fun ls hl => ?_)
  refine lv_aload_n hx hb dL_areQueues_144 rfl (lv_at hl 2 rfl) ?_
  refine lv_iload hx hb dL_areQueues_145 (lv_at hl 4 rfl) ?_
  refine lv_iconst (v := nI 5) hx hb dL_areQueues_147 (by decide) ?_
  refine mo_call (x := x) (As := [.int (nI s0), .int (nI 5)]) (rest := []) (st1 := [.int (fStrm w t s0 5)]) C0 (op_stream hs (by decide)) hW (fun rm x1 x2 x3 x4 => cwV 2 C0.1.2.2.2.2 gL_areQueues_X3_stream rfl x1 x2 (by decide +kernel) ⟨by show _ ≤ 8; omega, by show _ ≤ 190; omega⟩) hS (fun _ h => h) rfl rfl rfl hl.1 (Nat.le_of_ble_eq_true rfl) dL_areQueues_148 ⟨Nat.le_of_ble_eq_true rfl, Nat.le_of_ble_eq_true rfl⟩ (fun H1 locs1 hW hF hS1 => ?_)
  clear hS
  have hS := hS1
  clear hS1 hF
  refine mr_top (y := nI 1) ((fStrm_5 w t s0).trans ((if_neg (by omega)).trans (if_pos hcd))) ?_
  refine lv_iconst (v := nI 1) hx hb dL_areQueues_151 (by decide) ?_
  refine lv_icmp_ne (tgt := 161) hx hb dL_areQueues_152 (by decide) (fun c152 => absurd rfl c152) (fun c152 => ?_)
  clear c152
  refine lv_iload_n hx hb dL_areQueues_155 rfl (lv_at hl 3 rfl) ?_
  refine lv_iconst (v := nI 1) hx hb dL_areQueues_156 (by decide) ?_
  refine mr_iaddN (z := qC w (s0 + 1)) C0 (qC_t hcd) dL_areQueues_157 ?_
  refine lv_goto (tgt := 162) hx hb dL_areQueues_158 (by decide) ?_
  refine lv_istore_n (lv' := [(3, .int (nI (qC w (s0 + 1)))), (2, .int (nI (qB w (s0 + 1)))), (1, .int (nI (qA w (s0 + 1)))), (0, .ref x), (4, .int (nI s0)), (5, .int (nI (cM w s0))), (6, .int (nI (preN w s0 (cM w s0)))), (7, .int (nI (cM w s0)))]) hx hb dL_areQueues_162 rfl hl (by decide) rfl (fun ls hl => ?_)
  refine lv_iload hx hb dL_areQueues_163 (lv_at hl 6 rfl) ?_
  refine lv_aload_n hx hb dL_areQueues_165 rfl (lv_at hl 3 rfl) ?_
  refine lv_iload hx hb dL_areQueues_166 (lv_at hl 4 rfl) ?_
  refine lv_iconst (v := nI 4) hx hb dL_areQueues_168 (by decide) ?_
  refine mo_call (x := x) (As := [.int (nI s0), .int (nI 4)]) (rest := [.int (nI (preN w s0 (cM w s0)))]) (st1 := [.int (fStrm w t s0 4), .int (nI (preN w s0 (cM w s0)))]) C0 (op_stream hs (by decide)) hW (fun rm x1 x2 x3 x4 => cwV 2 C0.1.2.2.2.2 gL_areQueues_X3_stream rfl x1 x2 (by decide +kernel) ⟨by show _ ≤ 8; omega, by show _ ≤ 190; omega⟩) hS (fun _ h => h) rfl rfl rfl hl.1 (Nat.le_of_ble_eq_true rfl) dL_areQueues_169 ⟨Nat.le_of_ble_eq_true rfl, Nat.le_of_ble_eq_true rfl⟩ (fun H1 locs1 hW hF hS1 => ?_)
  clear hS
  have hS := hS1
  clear hS1 hF
  refine mr_top (y := nI (preN w s0 (cM w s0))) (fStrm_4 w t s0) ?_
  refine lv_icmp_ne (tgt := 228) hx hb dL_areQueues_172 (by decide) (fun c172 => absurd rfl c172) (fun c172 => ?_)
  clear c172
  refine lv_aload_n hx hb dL_areQueues_175 rfl (lv_at hl 3 rfl) ?_
  refine lv_iload hx hb dL_areQueues_176 (lv_at hl 4 rfl) ?_
  refine lv_iload hx hb dL_areQueues_178 (lv_at hl 5 rfl) ?_
  refine lv_iconst (v := nI 0) hx hb dL_areQueues_180 (by decide) ?_
  refine mo_call (x := x) (As := [.int (nI s0), .int (nI (cM w s0)), .int (nI 0)]) (rest := []) (st1 := [.int (fFrm w t s0 (cM w s0) 0)]) C0 (op_frame hs (by omega) (by decide)) hW (fun rm x1 x2 x3 x4 => cwV 3 C0.1.2.2.2.2 gL_areQueues_X3_frame rfl x1 x2 (by decide +kernel) ⟨by show _ ≤ 8; omega, by show _ ≤ 190; omega⟩) hS (fun _ h => h) rfl rfl rfl hl.1 (Nat.le_of_ble_eq_true rfl) dL_areQueues_181 ⟨Nat.le_of_ble_eq_true rfl, Nat.le_of_ble_eq_true rfl⟩ (fun H1 locs1 hW hF hS1 => ?_)
  clear hS
  have hS := hS1
  clear hS1 hF
  refine mr_top (y := -9) (fFrm_ge 0 (Nat.lt_irrefl _)) ?_
  refine lv_bipush (v := -9) hx hb dL_areQueues_184 (by decide) ?_
  refine lv_icmp_ne (tgt := 228) hx hb dL_areQueues_186 (by decide) (fun c186 => absurd rfl c186) (fun c186 => ?_)
  clear c186
  refine lv_iload hx hb dL_areQueues_189 (lv_at hl 5 rfl) ?_
  refine mr_eq0N (x := cM w s0) (tgt := 224) C0 dL_areQueues_191 (by decide) (by omega) (fun c191 => absurd c191 (by omega)) (fun c191 => ?_)
  clear c191
  refine lv_aload_n hx hb dL_areQueues_194 rfl (lv_at hl 3 rfl) ?_
  refine lv_iload hx hb dL_areQueues_195 (lv_at hl 4 rfl) ?_
  refine lv_iconst (v := nI 0) hx hb dL_areQueues_197 (by decide) ?_
  refine mo_call (x := x) (As := [.int (nI s0), .int (nI 0)]) (rest := []) (st1 := [.int (fStrm w t s0 0)]) C0 (op_stream hs (by decide)) hW (fun rm x1 x2 x3 x4 => cwV 2 C0.1.2.2.2.2 gL_areQueues_X3_stream rfl x1 x2 (by decide +kernel) ⟨by show _ ≤ 8; omega, by show _ ≤ 190; omega⟩) hS (fun _ h => h) rfl rfl rfl hl.1 (Nat.le_of_ble_eq_true rfl) dL_areQueues_198 ⟨Nat.le_of_ble_eq_true rfl, Nat.le_of_ble_eq_true rfl⟩ (fun H1 locs1 hW hF hS1 => ?_)
  clear hS
  have hS := hS1
  clear hS1 hF
  refine mr_top (y := nI 1) ((fStrm_0 w t s0).trans (opn_c hG.2.1 hs (by omega))) ?_
  refine lv_iconst (v := nI 1) hx hb dL_areQueues_201 (by decide) ?_
  refine lv_icmp_ne (tgt := 228) hx hb dL_areQueues_202 (by decide) (fun c202 => absurd rfl c202) (fun c202 => ?_)
  clear c202
  refine lv_aload_n hx hb dL_areQueues_205 rfl (lv_at hl 3 rfl) ?_
  refine lv_iload hx hb dL_areQueues_206 (lv_at hl 4 rfl) ?_
  refine lv_bipush (v := nI 7) hx hb dL_areQueues_208 (by decide) ?_
  refine mo_call (x := x) (As := [.int (nI s0), .int (nI 7)]) (rest := []) (st1 := [.int (fStrm w t s0 7)]) C0 (op_stream hs (by decide)) hW (fun rm x1 x2 x3 x4 => cwV 2 C0.1.2.2.2.2 gL_areQueues_X3_stream rfl x1 x2 (by decide +kernel) ⟨by show _ ≤ 8; omega, by show _ ≤ 190; omega⟩) hS (fun _ h => h) rfl rfl rfl hl.1 (Nat.le_of_ble_eq_true rfl) dL_areQueues_210 ⟨Nat.le_of_ble_eq_true rfl, Nat.le_of_ble_eq_true rfl⟩ (fun H1 locs1 hW hF hS1 => ?_)
  clear hS
  have hS := hS1
  clear hS1 hF
  refine mr_top (y := nI (bfN s0 w 0 t)) ((fStrm_7 w t s0).trans (if_neg (by omega))) ?_
  refine lv_aload_n hx hb dL_areQueues_213 rfl (lv_at hl 3 rfl) ?_
  refine lv_iload hx hb dL_areQueues_214 (lv_at hl 4 rfl) ?_
  refine lv_iconst (v := nI 0) hx hb dL_areQueues_216 (by decide) ?_
  refine lv_iconst (v := nI 3) hx hb dL_areQueues_217 (by decide) ?_
  refine mo_call (x := x) (As := [.int (nI s0), .int (nI 0), .int (nI 3)]) (rest := [.int (nI (bfN s0 w 0 t))]) (st1 := [.int (fFrm w t s0 0 3), .int (nI (bfN s0 w 0 t))]) C0 (op_frame hs (by omega) (by decide)) hW (fun rm x1 x2 x3 x4 => cwV 3 C0.1.2.2.2.2 gL_areQueues_X3_frame rfl x1 x2 (by decide +kernel) ⟨by show _ ≤ 8; omega, by show _ ≤ 190; omega⟩) hS (fun _ h => h) rfl rfl rfl hl.1 (Nat.le_of_ble_eq_true rfl) dL_areQueues_218 ⟨Nat.le_of_ble_eq_true rfl, Nat.le_of_ble_eq_true rfl⟩ (fun H1 locs1 hW hF hS1 => ?_)
  clear hS
  have hS := hS1
  clear hS1 hF
  refine mr_top (y := nI (bfN s0 w 0 t)) ((fFrm_lt 3 (by omega)).trans (fFr_3 _ _ _ _)) ?_
  refine lv_icmp_ne (tgt := 228) hx hb dL_areQueues_221 (by decide) (fun c221 => absurd rfl c221) (fun c221 => ?_)
  clear c221
  refine lv_iconst (v := nI 1) hx hb dL_areQueues_224 (by decide) ?_
  refine lv_goto (tgt := 229) hx hb dL_areQueues_225 (by decide) ?_
  refine lv_istore (lv' := [(7, .int (nI 1)), (3, .int (nI (qC w (s0 + 1)))), (2, .int (nI (qB w (s0 + 1)))), (1, .int (nI (qA w (s0 + 1)))), (0, .ref x), (4, .int (nI s0)), (5, .int (nI (cM w s0))), (6, .int (nI (preN w s0 (cM w s0))))]) hx hb dL_areQueues_229 hl (by decide) rfl (fun ls hl => ?_)
  refine lv_iload hx hb dL_areQueues_231 (lv_at hl 0 rfl) ?_
  refine mr_eq0N (x := 1) (tgt := 294) C0 dL_areQueues_233 (by decide) (by decide) (fun c233 => absurd c233 (by omega)) (fun c233 => ?_)
  clear c233
  refine lv_iload hx hb dL_areQueues_236 (lv_at hl 6 rfl) ?_
  refine mr_le0N (x := cM w s0) (tgt := 276) C0 dL_areQueues_238 (by decide) (by omega) (fun c238 => absurd c238 (by omega)) (fun c238 => ?_)
  clear c238
  refine lv_aload_n hx hb dL_areQueues_241 rfl (lv_at hl 4 rfl) ?_
  refine lv_iload hx hb dL_areQueues_242 (lv_at hl 5 rfl) ?_
  refine lv_iconst (v := nI 5) hx hb dL_areQueues_244 (by decide) ?_
  refine mo_call (x := x) (As := [.int (nI s0), .int (nI 5)]) (rest := []) (st1 := [.int (fStrm w t s0 5)]) C0 (op_stream hs (by decide)) hW (fun rm x1 x2 x3 x4 => cwV 2 C0.1.2.2.2.2 gL_areQueues_X3_stream rfl x1 x2 (by decide +kernel) ⟨by show _ ≤ 8; omega, by show _ ≤ 190; omega⟩) hS (fun _ h => h) rfl rfl rfl hl.1 (Nat.le_of_ble_eq_true rfl) dL_areQueues_245 ⟨Nat.le_of_ble_eq_true rfl, Nat.le_of_ble_eq_true rfl⟩ (fun H1 locs1 hW hF hS1 => ?_)
  clear hS
  have hS := hS1
  clear hS1 hF
  refine mr_top (y := nI 1) ((fStrm_5 w t s0).trans ((if_neg (by omega)).trans (if_pos hcd))) ?_
  refine lv_iconst (v := nI 1) hx hb dL_areQueues_248 (by decide) ?_
  refine lv_icmp_ne (tgt := 256) hx hb dL_areQueues_249 (by decide) (fun c249 => absurd rfl c249) (fun c249 => ?_)
  clear c249
  refine lv_iconst (v := nI 1) hx hb dL_areQueues_252 (by decide) ?_
  refine lv_goto (tgt := 257) hx hb dL_areQueues_253 (by decide) ?_
  refine lv_aload_n hx hb dL_areQueues_257 rfl (lv_at hl 4 rfl) ?_
  refine lv_iload hx hb dL_areQueues_258 (lv_at hl 5 rfl) ?_
  refine lv_bipush (v := nI 6) hx hb dL_areQueues_260 (by decide) ?_
  refine mo_call (x := x) (As := [.int (nI s0), .int (nI 6)]) (rest := [.int (nI 1)]) (st1 := [.int (fStrm w t s0 6), .int (nI 1)]) C0 (op_stream hs (by decide)) hW (fun rm x1 x2 x3 x4 => cwV 2 C0.1.2.2.2.2 gL_areQueues_X3_stream rfl x1 x2 (by decide +kernel) ⟨by show _ ≤ 8; omega, by show _ ≤ 190; omega⟩) hS (fun _ h => h) rfl rfl rfl hl.1 (Nat.le_of_ble_eq_true rfl) dL_areQueues_262 ⟨Nat.le_of_ble_eq_true rfl, Nat.le_of_ble_eq_true rfl⟩ (fun H1 locs1 hW hF hS1 => ?_)
  clear hS
  have hS := hS1
  clear hS1 hF
  refine mr_top (y := nI 0) ((fStrm_6 w t s0).trans ((if_neg (by omega)).trans (congrArg nI (cand_c hcd).2))) ?_
  refine mr_ne0N (x := 0) (tgt := 272) C0 dL_areQueues_265 (by decide) (by decide) (fun c265 => absurd c265 (by omega)) (fun c265 => ?_)
  clear c265
  refine lv_iconst (v := nI 1) hx hb dL_areQueues_268 (by decide) ?_
  refine lv_goto (tgt := 273) hx hb dL_areQueues_269 (by decide) ?_
  refine lv_icmp_ne (tgt := 294) hx hb dL_areQueues_273 (by decide) (fun c273 => absurd rfl c273) (fun c273 => ?_)
  clear c273
  refine lv_iload hx hb dL_areQueues_276 (lv_at hl 6 rfl) ?_
  refine mr_ne0N (x := cM w s0) (tgt := 296) C0 dL_areQueues_278 (by decide) (by omega) (fun c278 => ?_) (fun c278 => absurd c278 (by omega))
  clear c278
  refine lv_iinc (k := 5) (v := nI (s0 + 1)) (lv' := [(4, .int (nI (s0 + 1))), (7, .int (nI 1)), (3, .int (nI (qC w (s0 + 1)))), (2, .int (nI (qB w (s0 + 1)))), (1, .int (nI (qA w (s0 + 1)))), (0, .ref x), (5, .int (nI (cM w s0))), (6, .int (nI (preN w s0 (cM w s0))))]) hx hb dL_areQueues_296 hl rfl (by rw [show Int32.ofInt 1 = nI 1 from by decide, nI_add]) (by decide) rfl (fun ls hl => ?_)
  refine lv_goto (tgt := 9) hx hb dL_areQueues_299 (by decide) ?_
  exact kk _ _ _ hW hS (lv_sub hl [5, 4, 3, 2, 0] rfl)
set_option maxHeartbeats 4000000 in
set_option maxRecDepth 100000 in
theorem aq_c {p : Program} {l : Launch} {e : Env} {R : Room} {s : State} {m : MethodId} {args : Array Value} {below : List Frame} {meth : Method} {c : Code} {Qq : State → Prop} {D : va_G} {T : Nat → ClassId} {H0 : Heap} {x n t : Nat} {w : Nat → Int32} {P Q : Nat → Nat → Int32} {kp : Nat → Bool} {s0 : Nat} {H : Heap} {locs : List Loc} {ls : Array Slot} (C0 : Cx p s m args c cL_areQueues 8 wsL_areQueues RL D T) (hR : R = { frames := 8, cells := 0, slots := 0, locals := 190 }) (ht : t < 1000) (hG : Good w t) (hE : Ex w) (hs : s0 < 8) (h0 : 0 < cM w s0) (hb0 : 0 < blkN w s0) (hcd : candR w s0 = false) (hW : Wo D T x t (n, w, P, Q, kp) H) (hS : va_S (Rg x) H0 H locs) (hl : lv_has ls 8 [(0, .ref x), (1, .int (nI (qA w s0))), (2, .int (nI (qB w s0))), (3, .int (nI (qC w s0))), (4, .int (nI s0)), (5, .int (nI (cM w s0))), (6, .int (nI (preN w s0 (cM w s0)))), (7, .int (nI (cM w s0)))])
    (kk : ∀ (H1 : Heap) (locs1 : List Loc) (ls1 : Array Slot), Wo D T x t (n, w, P, Q, kp) H1 → va_S (Rg x) H0 H1 locs1 → lv_has ls1 8 [(0, .ref x), (1, .int (nI (qA w (s0 + 1)))), (2, .int (nI (qB w (s0 + 1)))), (3, .int (nI (qC w (s0 + 1)))), (4, .int (nI (s0 + 1)))] → W p l e R s m args below meth c H1 locs1 0 0 Qq (F0 m 9 ls1 [])) : W p l e R s m args below meth c H locs 0 0 Qq (F0 m 134 ls []) := by
  have hx := C0.1.1
  have hb := C0.1.2.1
  subst hR
  have hc6 := cM_le hG.1 hs
  refine lv_iload_n hx hb dL_areQueues_134 rfl (lv_at hl 1 rfl) ?_
  refine lv_iload hx hb dL_areQueues_135 (lv_at hl 5 rfl) ?_
  refine mr_iaddN (z := qA w (s0 + 1)) C0 (rfl) dL_areQueues_137 ?_
  refine lv_istore_n (lv' := [(1, .int (nI (qA w (s0 + 1)))), (0, .ref x), (2, .int (nI (qB w s0))), (3, .int (nI (qC w s0))), (4, .int (nI s0)), (5, .int (nI (cM w s0))), (6, .int (nI (preN w s0 (cM w s0)))), (7, .int (nI (cM w s0)))]) hx hb dL_areQueues_138 rfl hl (by decide) rfl (fun ls hl => ?_)
  refine lv_iload_n hx hb dL_areQueues_139 rfl (lv_at hl 2 rfl) ?_
  refine lv_iload hx hb dL_areQueues_140 (lv_at hl 6 rfl) ?_
  refine mr_iaddN (z := qB w (s0 + 1)) C0 (rfl) dL_areQueues_142 ?_
  refine lv_istore_n (lv' := [(2, .int (nI (qB w (s0 + 1)))), (1, .int (nI (qA w (s0 + 1)))), (0, .ref x), (3, .int (nI (qC w s0))), (4, .int (nI s0)), (5, .int (nI (cM w s0))), (6, .int (nI (preN w s0 (cM w s0)))), (7, .int (nI (cM w s0)))]) hx hb dL_areQueues_143 rfl hl (by decide) rfl (fun ls hl => ?_)
  refine lv_aload_n hx hb dL_areQueues_144 rfl (lv_at hl 2 rfl) ?_
  refine lv_iload hx hb dL_areQueues_145 (lv_at hl 4 rfl) ?_
  refine lv_iconst (v := nI 5) hx hb dL_areQueues_147 (by decide) ?_
  refine mo_call (x := x) (As := [.int (nI s0), .int (nI 5)]) (rest := []) (st1 := [.int (fStrm w t s0 5)]) C0 (op_stream hs (by decide)) hW (fun rm x1 x2 x3 x4 => cwV 2 C0.1.2.2.2.2 gL_areQueues_X3_stream rfl x1 x2 (by decide +kernel) ⟨by show _ ≤ 8; omega, by show _ ≤ 190; omega⟩) hS (fun _ h => h) rfl rfl rfl hl.1 (Nat.le_of_ble_eq_true rfl) dL_areQueues_148 ⟨Nat.le_of_ble_eq_true rfl, Nat.le_of_ble_eq_true rfl⟩ (fun H1 locs1 hW hF hS1 => ?_)
  clear hS
  have hS := hS1
  clear hS1 hF
  refine mr_top (y := nI 0) ((fStrm_5 w t s0).trans ((if_neg (by omega)).trans (if_neg (by rw [hcd]; decide)))) ?_
  refine lv_iconst (v := nI 1) hx hb dL_areQueues_151 (by decide) ?_
  refine mr_neN (x := 0) (y := 1) (tgt := 161) C0 dL_areQueues_152 (by decide) (by omega) (by omega) (fun c152 => ?_) (fun c152 => absurd c152 (by decide))
  clear c152
  refine lv_iload_n hx hb dL_areQueues_161 rfl (lv_at hl 3 rfl) ?_
  refine mr_top (y := nI (qC w (s0 + 1))) (congrArg nI (qC_f hcd)) ?_
  refine lv_istore_n (lv' := [(3, .int (nI (qC w (s0 + 1)))), (2, .int (nI (qB w (s0 + 1)))), (1, .int (nI (qA w (s0 + 1)))), (0, .ref x), (4, .int (nI s0)), (5, .int (nI (cM w s0))), (6, .int (nI (preN w s0 (cM w s0)))), (7, .int (nI (cM w s0)))]) hx hb dL_areQueues_162 rfl hl (by decide) rfl (fun ls hl => ?_)
  refine lv_iload hx hb dL_areQueues_163 (lv_at hl 6 rfl) ?_
  refine lv_aload_n hx hb dL_areQueues_165 rfl (lv_at hl 3 rfl) ?_
  refine lv_iload hx hb dL_areQueues_166 (lv_at hl 4 rfl) ?_
  refine lv_iconst (v := nI 4) hx hb dL_areQueues_168 (by decide) ?_
  refine mo_call (x := x) (As := [.int (nI s0), .int (nI 4)]) (rest := [.int (nI (preN w s0 (cM w s0)))]) (st1 := [.int (fStrm w t s0 4), .int (nI (preN w s0 (cM w s0)))]) C0 (op_stream hs (by decide)) hW (fun rm x1 x2 x3 x4 => cwV 2 C0.1.2.2.2.2 gL_areQueues_X3_stream rfl x1 x2 (by decide +kernel) ⟨by show _ ≤ 8; omega, by show _ ≤ 190; omega⟩) hS (fun _ h => h) rfl rfl rfl hl.1 (Nat.le_of_ble_eq_true rfl) dL_areQueues_169 ⟨Nat.le_of_ble_eq_true rfl, Nat.le_of_ble_eq_true rfl⟩ (fun H1 locs1 hW hF hS1 => ?_)
  clear hS
  have hS := hS1
  clear hS1 hF
  refine mr_top (y := nI (preN w s0 (cM w s0))) (fStrm_4 w t s0) ?_
  refine lv_icmp_ne (tgt := 228) hx hb dL_areQueues_172 (by decide) (fun c172 => absurd rfl c172) (fun c172 => ?_)
  clear c172
  refine lv_aload_n hx hb dL_areQueues_175 rfl (lv_at hl 3 rfl) ?_
  refine lv_iload hx hb dL_areQueues_176 (lv_at hl 4 rfl) ?_
  refine lv_iload hx hb dL_areQueues_178 (lv_at hl 5 rfl) ?_
  refine lv_iconst (v := nI 0) hx hb dL_areQueues_180 (by decide) ?_
  refine mo_call (x := x) (As := [.int (nI s0), .int (nI (cM w s0)), .int (nI 0)]) (rest := []) (st1 := [.int (fFrm w t s0 (cM w s0) 0)]) C0 (op_frame hs (by omega) (by decide)) hW (fun rm x1 x2 x3 x4 => cwV 3 C0.1.2.2.2.2 gL_areQueues_X3_frame rfl x1 x2 (by decide +kernel) ⟨by show _ ≤ 8; omega, by show _ ≤ 190; omega⟩) hS (fun _ h => h) rfl rfl rfl hl.1 (Nat.le_of_ble_eq_true rfl) dL_areQueues_181 ⟨Nat.le_of_ble_eq_true rfl, Nat.le_of_ble_eq_true rfl⟩ (fun H1 locs1 hW hF hS1 => ?_)
  clear hS
  have hS := hS1
  clear hS1 hF
  refine mr_top (y := -9) (fFrm_ge 0 (Nat.lt_irrefl _)) ?_
  refine lv_bipush (v := -9) hx hb dL_areQueues_184 (by decide) ?_
  refine lv_icmp_ne (tgt := 228) hx hb dL_areQueues_186 (by decide) (fun c186 => absurd rfl c186) (fun c186 => ?_)
  clear c186
  refine lv_iload hx hb dL_areQueues_189 (lv_at hl 5 rfl) ?_
  refine mr_eq0N (x := cM w s0) (tgt := 224) C0 dL_areQueues_191 (by decide) (by omega) (fun c191 => absurd c191 (by omega)) (fun c191 => ?_)
  clear c191
  refine lv_aload_n hx hb dL_areQueues_194 rfl (lv_at hl 3 rfl) ?_
  refine lv_iload hx hb dL_areQueues_195 (lv_at hl 4 rfl) ?_
  refine lv_iconst (v := nI 0) hx hb dL_areQueues_197 (by decide) ?_
  refine mo_call (x := x) (As := [.int (nI s0), .int (nI 0)]) (rest := []) (st1 := [.int (fStrm w t s0 0)]) C0 (op_stream hs (by decide)) hW (fun rm x1 x2 x3 x4 => cwV 2 C0.1.2.2.2.2 gL_areQueues_X3_stream rfl x1 x2 (by decide +kernel) ⟨by show _ ≤ 8; omega, by show _ ≤ 190; omega⟩) hS (fun _ h => h) rfl rfl rfl hl.1 (Nat.le_of_ble_eq_true rfl) dL_areQueues_198 ⟨Nat.le_of_ble_eq_true rfl, Nat.le_of_ble_eq_true rfl⟩ (fun H1 locs1 hW hF hS1 => ?_)
  clear hS
  have hS := hS1
  clear hS1 hF
  refine mr_top (y := nI 1) ((fStrm_0 w t s0).trans (opn_c hG.2.1 hs (by omega))) ?_
  refine lv_iconst (v := nI 1) hx hb dL_areQueues_201 (by decide) ?_
  refine lv_icmp_ne (tgt := 228) hx hb dL_areQueues_202 (by decide) (fun c202 => absurd rfl c202) (fun c202 => ?_)
  clear c202
  refine lv_aload_n hx hb dL_areQueues_205 rfl (lv_at hl 3 rfl) ?_
  refine lv_iload hx hb dL_areQueues_206 (lv_at hl 4 rfl) ?_
  refine lv_bipush (v := nI 7) hx hb dL_areQueues_208 (by decide) ?_
  refine mo_call (x := x) (As := [.int (nI s0), .int (nI 7)]) (rest := []) (st1 := [.int (fStrm w t s0 7)]) C0 (op_stream hs (by decide)) hW (fun rm x1 x2 x3 x4 => cwV 2 C0.1.2.2.2.2 gL_areQueues_X3_stream rfl x1 x2 (by decide +kernel) ⟨by show _ ≤ 8; omega, by show _ ≤ 190; omega⟩) hS (fun _ h => h) rfl rfl rfl hl.1 (Nat.le_of_ble_eq_true rfl) dL_areQueues_210 ⟨Nat.le_of_ble_eq_true rfl, Nat.le_of_ble_eq_true rfl⟩ (fun H1 locs1 hW hF hS1 => ?_)
  clear hS
  have hS := hS1
  clear hS1 hF
  refine mr_top (y := nI (bfN s0 w 0 t)) ((fStrm_7 w t s0).trans (if_neg (by omega))) ?_
  refine lv_aload_n hx hb dL_areQueues_213 rfl (lv_at hl 3 rfl) ?_
  refine lv_iload hx hb dL_areQueues_214 (lv_at hl 4 rfl) ?_
  refine lv_iconst (v := nI 0) hx hb dL_areQueues_216 (by decide) ?_
  refine lv_iconst (v := nI 3) hx hb dL_areQueues_217 (by decide) ?_
  refine mo_call (x := x) (As := [.int (nI s0), .int (nI 0), .int (nI 3)]) (rest := [.int (nI (bfN s0 w 0 t))]) (st1 := [.int (fFrm w t s0 0 3), .int (nI (bfN s0 w 0 t))]) C0 (op_frame hs (by omega) (by decide)) hW (fun rm x1 x2 x3 x4 => cwV 3 C0.1.2.2.2.2 gL_areQueues_X3_frame rfl x1 x2 (by decide +kernel) ⟨by show _ ≤ 8; omega, by show _ ≤ 190; omega⟩) hS (fun _ h => h) rfl rfl rfl hl.1 (Nat.le_of_ble_eq_true rfl) dL_areQueues_218 ⟨Nat.le_of_ble_eq_true rfl, Nat.le_of_ble_eq_true rfl⟩ (fun H1 locs1 hW hF hS1 => ?_)
  clear hS
  have hS := hS1
  clear hS1 hF
  refine mr_top (y := nI (bfN s0 w 0 t)) ((fFrm_lt 3 (by omega)).trans (fFr_3 _ _ _ _)) ?_
  refine lv_icmp_ne (tgt := 228) hx hb dL_areQueues_221 (by decide) (fun c221 => absurd rfl c221) (fun c221 => ?_)
  clear c221
  refine lv_iconst (v := nI 1) hx hb dL_areQueues_224 (by decide) ?_
  refine lv_goto (tgt := 229) hx hb dL_areQueues_225 (by decide) ?_
  refine lv_istore (lv' := [(7, .int (nI 1)), (3, .int (nI (qC w (s0 + 1)))), (2, .int (nI (qB w (s0 + 1)))), (1, .int (nI (qA w (s0 + 1)))), (0, .ref x), (4, .int (nI s0)), (5, .int (nI (cM w s0))), (6, .int (nI (preN w s0 (cM w s0))))]) hx hb dL_areQueues_229 hl (by decide) rfl (fun ls hl => ?_)
  refine lv_iload hx hb dL_areQueues_231 (lv_at hl 0 rfl) ?_
  refine mr_eq0N (x := 1) (tgt := 294) C0 dL_areQueues_233 (by decide) (by decide) (fun c233 => absurd c233 (by omega)) (fun c233 => ?_)
  clear c233
  refine lv_iload hx hb dL_areQueues_236 (lv_at hl 6 rfl) ?_
  refine mr_le0N (x := cM w s0) (tgt := 276) C0 dL_areQueues_238 (by decide) (by omega) (fun c238 => absurd c238 (by omega)) (fun c238 => ?_)
  clear c238
  refine lv_aload_n hx hb dL_areQueues_241 rfl (lv_at hl 4 rfl) ?_
  refine lv_iload hx hb dL_areQueues_242 (lv_at hl 5 rfl) ?_
  refine lv_iconst (v := nI 5) hx hb dL_areQueues_244 (by decide) ?_
  refine mo_call (x := x) (As := [.int (nI s0), .int (nI 5)]) (rest := []) (st1 := [.int (fStrm w t s0 5)]) C0 (op_stream hs (by decide)) hW (fun rm x1 x2 x3 x4 => cwV 2 C0.1.2.2.2.2 gL_areQueues_X3_stream rfl x1 x2 (by decide +kernel) ⟨by show _ ≤ 8; omega, by show _ ≤ 190; omega⟩) hS (fun _ h => h) rfl rfl rfl hl.1 (Nat.le_of_ble_eq_true rfl) dL_areQueues_245 ⟨Nat.le_of_ble_eq_true rfl, Nat.le_of_ble_eq_true rfl⟩ (fun H1 locs1 hW hF hS1 => ?_)
  clear hS
  have hS := hS1
  clear hS1 hF
  refine mr_top (y := nI 0) ((fStrm_5 w t s0).trans ((if_neg (by omega)).trans (if_neg (by rw [hcd]; decide)))) ?_
  refine lv_iconst (v := nI 1) hx hb dL_areQueues_248 (by decide) ?_
  refine mr_neN (x := 0) (y := 1) (tgt := 256) C0 dL_areQueues_249 (by decide) (by omega) (by omega) (fun c249 => ?_) (fun c249 => absurd c249 (by decide))
  clear c249
  refine lv_iconst (v := nI 0) hx hb dL_areQueues_256 (by decide) ?_
  refine lv_aload_n hx hb dL_areQueues_257 rfl (lv_at hl 4 rfl) ?_
  refine lv_iload hx hb dL_areQueues_258 (lv_at hl 5 rfl) ?_
  refine lv_bipush (v := nI 6) hx hb dL_areQueues_260 (by decide) ?_
  refine mo_call (x := x) (As := [.int (nI s0), .int (nI 6)]) (rest := [.int (nI 0)]) (st1 := [.int (fStrm w t s0 6), .int (nI 0)]) C0 (op_stream hs (by decide)) hW (fun rm x1 x2 x3 x4 => cwV 2 C0.1.2.2.2.2 gL_areQueues_X3_stream rfl x1 x2 (by decide +kernel) ⟨by show _ ≤ 8; omega, by show _ ≤ 190; omega⟩) hS (fun _ h => h) rfl rfl rfl hl.1 (Nat.le_of_ble_eq_true rfl) dL_areQueues_262 ⟨Nat.le_of_ble_eq_true rfl, Nat.le_of_ble_eq_true rfl⟩ (fun H1 locs1 hW hF hS1 => ?_)
  clear hS
  have hS := hS1
  clear hS1 hF
  refine mr_top (y := nI (blkN w s0)) ((fStrm_6 w t s0).trans (if_neg (by omega))) ?_
  refine mr_ne0N (x := blkN w s0) (tgt := 272) C0 dL_areQueues_265 (by decide) (by have := blkN_le hG.1 s0; omega) (fun c265 => ?_) (fun c265 => absurd c265 (by omega))
  clear c265
  refine lv_iconst (v := nI 0) hx hb dL_areQueues_272 (by decide) ?_
  refine lv_icmp_ne (tgt := 294) hx hb dL_areQueues_273 (by decide) (fun c273 => absurd rfl c273) (fun c273 => ?_)
  clear c273
  refine lv_iload hx hb dL_areQueues_276 (lv_at hl 6 rfl) ?_
  refine mr_ne0N (x := cM w s0) (tgt := 296) C0 dL_areQueues_278 (by decide) (by omega) (fun c278 => ?_) (fun c278 => absurd c278 (by omega))
  clear c278
  refine lv_iinc (k := 5) (v := nI (s0 + 1)) (lv' := [(4, .int (nI (s0 + 1))), (7, .int (nI 1)), (3, .int (nI (qC w (s0 + 1)))), (2, .int (nI (qB w (s0 + 1)))), (1, .int (nI (qA w (s0 + 1)))), (0, .ref x), (5, .int (nI (cM w s0))), (6, .int (nI (preN w s0 (cM w s0))))]) hx hb dL_areQueues_296 hl rfl (by rw [show Int32.ofInt 1 = nI 1 from by decide, nI_add]) (by decide) rfl (fun ls hl => ?_)
  refine lv_goto (tgt := 9) hx hb dL_areQueues_299 (by decide) ?_
  exact kk _ _ _ hW hS (lv_sub hl [5, 4, 3, 2, 0] rfl)
set_option maxHeartbeats 4000000 in
set_option maxRecDepth 100000 in
theorem aq_loop {p : Program} {l : Launch} {e : Env} {R : Room} {s : State} {m : MethodId} {args : Array Value} {below : List Frame} {meth : Method} {c : Code} {Qq : State → Prop} {D : va_G} {T : Nat → ClassId} {H0 : Heap} {x n t : Nat} {w : Nat → Int32} {P Q : Nat → Nat → Int32} {kp : Nat → Bool} (C0 : Cx p s m args c cL_areQueues 8 wsL_areQueues RL D T) (hR : R = { frames := 8, cells := 0, slots := 0, locals := 190 }) (ht : t < 1000) (hG : Good w t) (hE : Ex w)
    (kk : ∀ (H1 : Heap) (locs1 : List Loc) (ls1 : Array Slot), Wo D T x t (n, w, P, Q, kp) H1 → va_S (Rg x) H0 H1 locs1 → lv_has ls1 8 [(0, .ref x), (1, .int (nI (qA w 8))), (2, .int (nI (qB w 8))), (3, .int (nI (qC w 8))), (4, .int (nI 8))] → W p l e R s m args below meth c H1 locs1 0 0 Qq (F0 m 302 ls1 [])) :
    ∀ (r s0 : Nat) (H : Heap) (locs : List Loc) (ls : Array Slot), s0 + r = 8 → Wo D T x t (n, w, P, Q, kp) H → va_S (Rg x) H0 H locs → lv_has ls 8 [(0, .ref x), (1, .int (nI (qA w s0))), (2, .int (nI (qB w s0))), (3, .int (nI (qC w s0))), (4, .int (nI s0))] → W p l e R s m args below meth c H locs 0 0 Qq (F0 m 9 ls []) := by
  have hx := C0.1.1
  have hb := C0.1.2.1
  subst hR
  intro r
  induction r with
  | zero =>
    intro s0 H locs ls hs8 hW hS hl
    have e : s0 = 8 := by omega
    subst e
    refine lv_iload hx hb dL_areQueues_9 (lv_at hl 4 rfl) ?_
    refine lv_bipush (v := nI 8) hx hb dL_areQueues_11 (by decide) ?_
    refine mr_geN (x := 8) (y := 8) (tgt := 302) C0 dL_areQueues_13 (by decide) (by omega) (by omega) (fun c => ?_) (fun c => absurd c (by omega))
    exact kk _ _ _ hW hS hl
  | succ r ih =>
    intro s0 H locs ls hs8 hW hS hl
    have hs : s0 < 8 := by omega
    refine lv_iload hx hb dL_areQueues_9 (lv_at hl 4 rfl) ?_
    refine lv_bipush (v := nI 8) hx hb dL_areQueues_11 (by decide) ?_
    refine mr_geN (x := s0) (y := 8) (tgt := 302) C0 dL_areQueues_13 (by decide) (by omega) (by omega) (fun c13 => absurd c13 (by omega)) (fun c13 => ?_)
    clear c13
    refine lv_aload_n hx hb dL_areQueues_16 rfl (lv_at hl 0 rfl) ?_
    refine lv_iload hx hb dL_areQueues_17 (lv_at hl 4 rfl) ?_
    refine lv_iconst (v := nI 3) hx hb dL_areQueues_19 (by decide) ?_
    refine mo_call (x := x) (As := [.int (nI s0), .int (nI 3)]) (rest := []) (st1 := [.int (fStrm w t s0 3)]) C0 (op_stream hs (by decide)) hW (fun rm x1 x2 x3 x4 => cwV 2 C0.1.2.2.2.2 gL_areQueues_X3_stream rfl x1 x2 (by decide +kernel) ⟨by show _ ≤ 8; omega, by show _ ≤ 190; omega⟩) hS (fun _ h => h) rfl rfl rfl hl.1 (Nat.le_of_ble_eq_true rfl) dL_areQueues_20 ⟨Nat.le_of_ble_eq_true rfl, Nat.le_of_ble_eq_true rfl⟩ (fun H1 locs1 hW hF hS1 => ?_)
    clear hS
    have hS := hS1
    clear hS1 hF
    refine mr_top (y := nI (cM w s0)) (fStrm_3 w t s0) ?_
    refine lv_istore (lv' := [(5, .int (nI (cM w s0))), (0, .ref x), (1, .int (nI (qA w s0))), (2, .int (nI (qB w s0))), (3, .int (nI (qC w s0))), (4, .int (nI s0))]) hx hb dL_areQueues_23 hl (by decide) rfl (fun ls hl => ?_)
    refine lv_iconst (v := nI 0) hx hb dL_areQueues_25 (by decide) ?_
    refine lv_istore (lv' := [(6, .int (nI 0)), (5, .int (nI (cM w s0))), (0, .ref x), (1, .int (nI (qA w s0))), (2, .int (nI (qB w s0))), (3, .int (nI (qC w s0))), (4, .int (nI s0))]) hx hb dL_areQueues_26 hl (by decide) rfl (fun ls hl => ?_)
    refine lv_iconst (v := nI 0) hx hb dL_areQueues_28 (by decide) ?_
    refine lv_istore (lv' := [(7, .int (nI 0)), (6, .int (nI 0)), (5, .int (nI (cM w s0))), (0, .ref x), (1, .int (nI (qA w s0))), (2, .int (nI (qB w s0))), (3, .int (nI (qC w s0))), (4, .int (nI s0))]) hx hb dL_areQueues_29 hl (by decide) rfl (fun ls hl => ?_)
    refine aq_in (a1 := qA w s0) (a2 := qB w s0) (a3 := qC w s0) C0 rfl ht hG hE hs (fun H1 locs1 ls1 hW1 hS1 hl1 => ?_) (cM w s0) 0 _ _ _ (Nat.zero_add _) hW hS (lv_sub hl [3, 4, 5, 6, 7, 2, 1, 0] rfl)
    rcases Nat.eq_zero_or_pos (cM w s0) with h0 | h0
    · exact aq_a C0 rfl ht hG hE hs h0 (by unfold candR; rw [h0]; rfl) hW1 hS1 hl1 (fun H2 locs2 ls2 hW2 hS2 hl2 => ih (s0 + 1) H2 locs2 ls2 (by omega) hW2 hS2 hl2)
    · by_cases hcd : candR w s0 = true
      · exact aq_b C0 rfl ht hG hE hs h0 hcd hW1 hS1 hl1 (fun H2 locs2 ls2 hW2 hS2 hl2 => ih (s0 + 1) H2 locs2 ls2 (by omega) hW2 hS2 hl2)
      · have hcf := nf hcd
        have hb0 : 0 < blkN w s0 := by
          rcases Nat.eq_zero_or_pos (blkN w s0) with z | z
          · exfalso
            unfold candR at hcf
            rw [decide_eq_true h0, decide_eq_true z] at hcf
            exact absurd hcf (by decide)
          · exact z
        exact aq_c C0 rfl ht hG hE hs h0 hb0 hcf hW1 hS1 hl1 (fun H2 locs2 ls2 hW2 hS2 hl2 => ih (s0 + 1) H2 locs2 ls2 (by omega) hW2 hS2 hl2)
set_option maxHeartbeats 4000000 in
set_option maxRecDepth 100000 in
theorem aq_z {p : Program} {l : Launch} {e : Env} {R : Room} {s : State} {m : MethodId} {args : Array Value} {below : List Frame} {meth : Method} {c : Code} {Qq : State → Prop} {D : va_G} {T : Nat → ClassId} {x n t : Nat} {w : Nat → Int32} {P Q : Nat → Nat → Int32} {kp : Nat → Bool} {H : Heap} {locs : List Loc} {ls : Array Slot} (C0 : Cx p s m args c cL_areQueues 8 wsL_areQueues RL D T) (hR : R = { frames := 8, cells := 0, slots := 0, locals := 190 }) (ht : t < 1000) (hG : Good w t) (hE : Ex w) (hr : meth.sig.returnType = some .boolean) (hlk : meth.locks = false) (hQ : Qq = MQ below (CtQ (Rg x) (some (.int (bI true))) (fun H => Wo D T x t (n, w, P, Q, kp) H)) args s 0 0 (Rg x)) (h0 : totN w = 0) (hW : Wo D T x t (n, w, P, Q, kp) H) (hS : va_S (Rg x) s.heap H locs) (hl : lv_has ls 8 [(0, .ref x), (1, .int (nI (totN w))), (2, .int (nI (allN w))), (3, .int (nI (cndN w)))]) : W p l e R s m args below meth c H locs 0 0 Qq (F0 m 302 ls []) := by
  have hx := C0.1.1
  have hb := C0.1.2.1
  subst hR
  have htl := tot_le hG.1
  refine lv_aload_n hx hb dL_areQueues_302 rfl (lv_at hl 0 rfl) ?_
  refine lv_bipush (v := nI 8) hx hb dL_areQueues_303 (by decide) ?_
  refine mo_call (x := x) (As := [.int (nI 8)]) (rest := []) (st1 := [.int (fTold n w 8)]) C0 (op_told (by decide)) hW (fun rm x1 x2 x3 x4 => cwV 1 C0.1.2.2.2.2 gL_areQueues_X3_told rfl x1 x2 (by decide +kernel) ⟨by show _ ≤ 8; omega, by show _ ≤ 190; omega⟩) hS (fun _ h => h) rfl rfl rfl hl.1 (Nat.le_of_ble_eq_true rfl) dL_areQueues_305 ⟨Nat.le_of_ble_eq_true rfl, Nat.le_of_ble_eq_true rfl⟩ (fun H1 locs1 hW hF hS1 => ?_)
  clear hS
  have hS := hS1
  clear hS1 hF
  refine mr_top (y := -9) (congrArg enc (nxt_none (tot_0 h0))) ?_
  refine lv_istore (lv' := [(4, .int (-9)), (0, .ref x), (1, .int (nI (totN w))), (2, .int (nI (allN w))), (3, .int (nI (cndN w)))]) hx hb dL_areQueues_308 hl (by decide) rfl (fun ls hl => ?_)
  refine lv_iload_n hx hb dL_areQueues_310 rfl (lv_at hl 2 rfl) ?_
  refine mr_ne0N (x := totN w) (tgt := 333) C0 dL_areQueues_311 (by decide) (by omega) (fun c311 => absurd c311 (by omega)) (fun c311 => ?_)
  clear c311
  refine lv_iload hx hb dL_areQueues_314 (lv_at hl 0 rfl) ?_
  refine lv_bipush (v := -9) hx hb dL_areQueues_316 (by decide) ?_
  refine lv_icmp_ne (tgt := 329) hx hb dL_areQueues_318 (by decide) (fun c318 => absurd rfl c318) (fun c318 => ?_)
  clear c318
  refine lv_iload_n hx hb dL_areQueues_321 rfl (lv_at hl 4 rfl) ?_
  refine mr_ne0N (x := cndN w) (tgt := 329) C0 dL_areQueues_322 (by decide) (by have := cnd_0 h0; omega) (fun c322 => absurd c322 (by have := cnd_0 h0; omega)) (fun c322 => ?_)
  clear c322
  refine lv_iconst (v := nI 1) hx hb dL_areQueues_325 (by decide) ?_
  refine lv_goto (tgt := 364) hx hb dL_areQueues_326 (by decide) ?_
  refine lv_istore (lv' := [(5, .int (nI 1)), (4, .int (-9)), (0, .ref x), (1, .int (nI (totN w))), (2, .int (nI (allN w))), (3, .int (nI (cndN w)))]) hx hb dL_areQueues_364 hl (by decide) rfl (fun ls hl => ?_)
  refine lv_iload hx hb dL_areQueues_366 (lv_at hl 0 rfl) ?_
  refine mr_eq0N (x := 1) (tgt := 429) C0 dL_areQueues_368 (by decide) (by decide) (fun c368 => absurd c368 (by omega)) (fun c368 => ?_)
  clear c368
  refine lv_aload_n hx hb dL_areQueues_371 rfl (lv_at hl 2 rfl) ?_
  refine lv_iconst (v := nI 1) hx hb dL_areQueues_372 (by decide) ?_
  refine mo_call (x := x) (As := [.int (nI 1)]) (rest := []) (st1 := [.int (fTold n w 1)]) C0 (op_told (by decide)) hW (fun rm x1 x2 x3 x4 => cwV 1 C0.1.2.2.2.2 gL_areQueues_X3_told rfl x1 x2 (by decide +kernel) ⟨by show _ ≤ 8; omega, by show _ ≤ 190; omega⟩) hS (fun _ h => h) rfl rfl rfl hl.1 (Nat.le_of_ble_eq_true rfl) dL_areQueues_373 ⟨Nat.le_of_ble_eq_true rfl, Nat.le_of_ble_eq_true rfl⟩ (fun H1 locs1 hW hF hS1 => ?_)
  clear hS
  have hS := hS1
  clear hS1 hF
  refine mr_top (y := nI (totN w)) (rfl) ?_
  refine lv_iload_n hx hb dL_areQueues_376 rfl (lv_at hl 3 rfl) ?_
  refine lv_icmp_ne (tgt := 429) hx hb dL_areQueues_377 (by decide) (fun c377 => absurd rfl c377) (fun c377 => ?_)
  clear c377
  refine lv_aload_n hx hb dL_areQueues_380 rfl (lv_at hl 2 rfl) ?_
  refine lv_iconst (v := nI 4) hx hb dL_areQueues_381 (by decide) ?_
  refine mo_call (x := x) (As := [.int (nI 4)]) (rest := []) (st1 := [.int (fTold n w 4)]) C0 (op_told (by decide)) hW (fun rm x1 x2 x3 x4 => cwV 1 C0.1.2.2.2.2 gL_areQueues_X3_told rfl x1 x2 (by decide +kernel) ⟨by show _ ≤ 8; omega, by show _ ≤ 190; omega⟩) hS (fun _ h => h) rfl rfl rfl hl.1 (Nat.le_of_ble_eq_true rfl) dL_areQueues_382 ⟨Nat.le_of_ble_eq_true rfl, Nat.le_of_ble_eq_true rfl⟩ (fun H1 locs1 hW hF hS1 => ?_)
  clear hS
  have hS := hS1
  clear hS1 hF
  refine mr_top (y := nI (allN w)) (rfl) ?_
  refine lv_iload_n hx hb dL_areQueues_385 rfl (lv_at hl 4 rfl) ?_
  refine lv_icmp_ne (tgt := 429) hx hb dL_areQueues_386 (by decide) (fun c386 => absurd rfl c386) (fun c386 => ?_)
  clear c386
  refine lv_aload_n hx hb dL_areQueues_389 rfl (lv_at hl 2 rfl) ?_
  refine lv_bipush (v := nI 7) hx hb dL_areQueues_390 (by decide) ?_
  refine mo_call (x := x) (As := [.int (nI 7)]) (rest := []) (st1 := [.int (fTold n w 7)]) C0 (op_told (by decide)) hW (fun rm x1 x2 x3 x4 => cwV 1 C0.1.2.2.2.2 gL_areQueues_X3_told rfl x1 x2 (by decide +kernel) ⟨by show _ ≤ 8; omega, by show _ ≤ 190; omega⟩) hS (fun _ h => h) rfl rfl rfl hl.1 (Nat.le_of_ble_eq_true rfl) dL_areQueues_392 ⟨Nat.le_of_ble_eq_true rfl, Nat.le_of_ble_eq_true rfl⟩ (fun H1 locs1 hW hF hS1 => ?_)
  clear hS
  have hS := hS1
  clear hS1 hF
  refine mr_top (y := nI (cndN w)) (rfl) ?_
  refine lv_iload_n hx hb dL_areQueues_395 rfl (lv_at hl 5 rfl) ?_
  refine lv_icmp_ne (tgt := 429) hx hb dL_areQueues_396 (by decide) (fun c396 => absurd rfl c396) (fun c396 => ?_)
  clear c396
  refine lv_aload_n hx hb dL_areQueues_399 rfl (lv_at hl 2 rfl) ?_
  refine lv_iconst (v := nI 2) hx hb dL_areQueues_400 (by decide) ?_
  refine mo_call (x := x) (As := [.int (nI 2)]) (rest := []) (st1 := [.int (fTold n w 2)]) C0 (op_told (by decide)) hW (fun rm x1 x2 x3 x4 => cwV 1 C0.1.2.2.2.2 gL_areQueues_X3_told rfl x1 x2 (by decide +kernel) ⟨by show _ ≤ 8; omega, by show _ ≤ 190; omega⟩) hS (fun _ h => h) rfl rfl rfl hl.1 (Nat.le_of_ble_eq_true rfl) dL_areQueues_401 ⟨Nat.le_of_ble_eq_true rfl, Nat.le_of_ble_eq_true rfl⟩ (fun H1 locs1 hW hF hS1 => ?_)
  clear hS
  have hS := hS1
  clear hS1 hF
  refine mr_top (y := w 265) (rfl) ?_
  refine lv_aload_n hx hb dL_areQueues_404 rfl (lv_at hl 2 rfl) ?_
  refine lv_iconst (v := nI 3) hx hb dL_areQueues_405 (by decide) ?_
  refine mo_call (x := x) (As := [.int (nI 3)]) (rest := [.int (w 265)]) (st1 := [.int (fTold n w 3), .int (w 265)]) C0 (op_told (by decide)) hW (fun rm x1 x2 x3 x4 => cwV 1 C0.1.2.2.2.2 gL_areQueues_X3_told rfl x1 x2 (by decide +kernel) ⟨by show _ ≤ 8; omega, by show _ ≤ 190; omega⟩) hS (fun _ h => h) rfl rfl rfl hl.1 (Nat.le_of_ble_eq_true rfl) dL_areQueues_406 ⟨Nat.le_of_ble_eq_true rfl, Nat.le_of_ble_eq_true rfl⟩ (fun H1 locs1 hW hF hS1 => ?_)
  clear hS
  have hS := hS1
  clear hS1 hF
  refine mr_top (y := w 266) (rfl) ?_
  refine lv_iload_n hx hb dL_areQueues_409 rfl (lv_at hl 3 rfl) ?_
  refine lv_iadd hx hb dL_areQueues_410 ?_
  refine lv_icmp_ne (tgt := 429) hx hb dL_areQueues_411 (by decide) (fun c411 => absurd hE.2.1 c411) (fun c411 => ?_)
  clear c411
  refine lv_aload_n hx hb dL_areQueues_414 rfl (lv_at hl 2 rfl) ?_
  refine lv_bipush (v := nI 9) hx hb dL_areQueues_415 (by decide) ?_
  refine mo_call (x := x) (As := [.int (nI 9)]) (rest := []) (st1 := [.int (fTold n w 9)]) C0 (op_told (by decide)) hW (fun rm x1 x2 x3 x4 => cwV 1 C0.1.2.2.2.2 gL_areQueues_X3_told rfl x1 x2 (by decide +kernel) ⟨by show _ ≤ 8; omega, by show _ ≤ 190; omega⟩) hS (fun _ h => h) rfl rfl rfl hl.1 (Nat.le_of_ble_eq_true rfl) dL_areQueues_417 ⟨Nat.le_of_ble_eq_true rfl, Nat.le_of_ble_eq_true rfl⟩ (fun H1 locs1 hW hF hS1 => ?_)
  clear hS
  have hS := hS1
  clear hS1 hF
  refine mr_top (y := nI (lgM w)) (rfl) ?_
  refine lv_bipush (v := nI 40) hx hb dL_areQueues_420 (by decide) ?_
  refine mr_gtN (x := lgM w) (y := 40) (tgt := 429) C0 dL_areQueues_422 (by decide) (by have := hG.1.2.2.2.2.2; omega) (by decide) (fun c422 => absurd c422 (by have := hG.1.2.2.2.2.2; omega)) (fun c422 => ?_)
  clear c422
  refine lv_iconst (v := nI 1) hx hb dL_areQueues_425 (by decide) ?_
  refine lv_goto (tgt := 430) hx hb dL_areQueues_426 (by decide) ?_
  refine mr_top (y := bI true) (by decide) ?_
  exact mr_zret (b := true) C0 hr hlk hQ hS rfl hW (Nat.le_refl _) (Nat.le_refl _) dL_areQueues_430
set_option maxHeartbeats 4000000 in
set_option maxRecDepth 100000 in
theorem aq_n {p : Program} {l : Launch} {e : Env} {R : Room} {s : State} {m : MethodId} {args : Array Value} {below : List Frame} {meth : Method} {c : Code} {Qq : State → Prop} {D : va_G} {T : Nat → ClassId} {x n t : Nat} {w : Nat → Int32} {P Q : Nat → Nat → Int32} {kp : Nat → Bool} {H : Heap} {locs : List Loc} {ls : Array Slot} (C0 : Cx p s m args c cL_areQueues 8 wsL_areQueues RL D T) (hR : R = { frames := 8, cells := 0, slots := 0, locals := 190 }) (ht : t < 1000) (hG : Good w t) (hE : Ex w) (hr : meth.sig.returnType = some .boolean) (hlk : meth.locks = false) (hQ : Qq = MQ below (CtQ (Rg x) (some (.int (bI true))) (fun H => Wo D T x t (n, w, P, Q, kp) H)) args s 0 0 (Rg x)) (h0 : 0 < totN w) (hW : Wo D T x t (n, w, P, Q, kp) H) (hS : va_S (Rg x) s.heap H locs) (hl : lv_has ls 8 [(0, .ref x), (1, .int (nI (totN w))), (2, .int (nI (allN w))), (3, .int (nI (cndN w)))]) : W p l e R s m args below meth c H locs 0 0 Qq (F0 m 302 ls []) := by
  have hx := C0.1.1
  have hb := C0.1.2.1
  subst hR
  have htl := tot_le hG.1
  have hn := nxt_cand hG h0
  refine lv_aload_n hx hb dL_areQueues_302 rfl (lv_at hl 0 rfl) ?_
  refine lv_bipush (v := nI 8) hx hb dL_areQueues_303 (by decide) ?_
  refine mo_call (x := x) (As := [.int (nI 8)]) (rest := []) (st1 := [.int (fTold n w 8)]) C0 (op_told (by decide)) hW (fun rm x1 x2 x3 x4 => cwV 1 C0.1.2.2.2.2 gL_areQueues_X3_told rfl x1 x2 (by decide +kernel) ⟨by show _ ≤ 8; omega, by show _ ≤ 190; omega⟩) hS (fun _ h => h) rfl rfl rfl hl.1 (Nat.le_of_ble_eq_true rfl) dL_areQueues_305 ⟨Nat.le_of_ble_eq_true rfl, Nat.le_of_ble_eq_true rfl⟩ (fun H1 locs1 hW hF hS1 => ?_)
  clear hS
  have hS := hS1
  clear hS1 hF
  refine mr_top (y := nI (nxtN w)) (enc_lt hn.1) ?_
  refine lv_istore (lv' := [(4, .int (nI (nxtN w))), (0, .ref x), (1, .int (nI (totN w))), (2, .int (nI (allN w))), (3, .int (nI (cndN w)))]) hx hb dL_areQueues_308 hl (by decide) rfl (fun ls hl => ?_)
  refine lv_iload_n hx hb dL_areQueues_310 rfl (lv_at hl 2 rfl) ?_
  refine mr_ne0N (x := totN w) (tgt := 333) C0 dL_areQueues_311 (by decide) (by omega) (fun c311 => ?_) (fun c311 => absurd c311 (by omega))
  clear c311
  refine lv_iload_n hx hb dL_areQueues_333 rfl (lv_at hl 4 rfl) ?_
  refine mr_le0N (x := cndN w) (tgt := 363) C0 dL_areQueues_334 (by decide) (by have := cnd_le w; omega) (fun c334 => absurd c334 (by have := cnd_pos hn.1 hn.2; omega)) (fun c334 => ?_)
  clear c334
  refine lv_aload_n hx hb dL_areQueues_337 rfl (lv_at hl 1 rfl) ?_
  refine lv_iload hx hb dL_areQueues_338 (lv_at hl 0 rfl) ?_
  refine lv_iconst (v := nI 5) hx hb dL_areQueues_340 (by decide) ?_
  refine mo_call (x := x) (As := [.int (nI (nxtN w)), .int (nI 5)]) (rest := []) (st1 := [.int (fStrm w t (nxtN w) 5)]) C0 (op_stream hn.1 (by decide)) hW (fun rm x1 x2 x3 x4 => cwV 2 C0.1.2.2.2.2 gL_areQueues_X3_stream rfl x1 x2 (by decide +kernel) ⟨by show _ ≤ 8; omega, by show _ ≤ 190; omega⟩) hS (fun _ h => h) rfl rfl rfl hl.1 (Nat.le_of_ble_eq_true rfl) dL_areQueues_341 ⟨Nat.le_of_ble_eq_true rfl, Nat.le_of_ble_eq_true rfl⟩ (fun H1 locs1 hW hF hS1 => ?_)
  clear hS
  have hS := hS1
  clear hS1 hF
  refine mr_top (y := nI 1) ((fStrm_5 w t _).trans ((if_neg (by have := (cand_c hn.2).1; omega)).trans (if_pos hn.2))) ?_
  refine lv_iconst (v := nI 1) hx hb dL_areQueues_344 (by decide) ?_
  refine lv_icmp_ne (tgt := 363) hx hb dL_areQueues_345 (by decide) (fun c345 => absurd rfl c345) (fun c345 => ?_)
  clear c345
  refine lv_aload_n hx hb dL_areQueues_348 rfl (lv_at hl 1 rfl) ?_
  refine lv_iload hx hb dL_areQueues_349 (lv_at hl 0 rfl) ?_
  refine lv_bipush (v := nI 7) hx hb dL_areQueues_351 (by decide) ?_
  refine mo_call (x := x) (As := [.int (nI (nxtN w)), .int (nI 7)]) (rest := []) (st1 := [.int (fStrm w t (nxtN w) 7)]) C0 (op_stream hn.1 (by decide)) hW (fun rm x1 x2 x3 x4 => cwV 2 C0.1.2.2.2.2 gL_areQueues_X3_stream rfl x1 x2 (by decide +kernel) ⟨by show _ ≤ 8; omega, by show _ ≤ 190; omega⟩) hS (fun _ h => h) rfl rfl rfl hl.1 (Nat.le_of_ble_eq_true rfl) dL_areQueues_353 ⟨Nat.le_of_ble_eq_true rfl, Nat.le_of_ble_eq_true rfl⟩ (fun H1 locs1 hW hF hS1 => ?_)
  clear hS
  have hS := hS1
  clear hS1 hF
  refine mr_top (y := nI 0) ((fStrm_7 w t _).trans ((if_neg (by have := (cand_c hn.2).1; omega)).trans (congrArg nI (bf_next hG h0)))) ?_
  refine mr_ne0N (x := 0) (tgt := 363) C0 dL_areQueues_356 (by decide) (by decide) (fun c356 => absurd c356 (by omega)) (fun c356 => ?_)
  clear c356
  refine lv_iconst (v := nI 1) hx hb dL_areQueues_359 (by decide) ?_
  refine lv_goto (tgt := 364) hx hb dL_areQueues_360 (by decide) ?_
  refine lv_istore (lv' := [(5, .int (nI 1)), (4, .int (nI (nxtN w))), (0, .ref x), (1, .int (nI (totN w))), (2, .int (nI (allN w))), (3, .int (nI (cndN w)))]) hx hb dL_areQueues_364 hl (by decide) rfl (fun ls hl => ?_)
  refine lv_iload hx hb dL_areQueues_366 (lv_at hl 0 rfl) ?_
  refine mr_eq0N (x := 1) (tgt := 429) C0 dL_areQueues_368 (by decide) (by decide) (fun c368 => absurd c368 (by omega)) (fun c368 => ?_)
  clear c368
  refine lv_aload_n hx hb dL_areQueues_371 rfl (lv_at hl 2 rfl) ?_
  refine lv_iconst (v := nI 1) hx hb dL_areQueues_372 (by decide) ?_
  refine mo_call (x := x) (As := [.int (nI 1)]) (rest := []) (st1 := [.int (fTold n w 1)]) C0 (op_told (by decide)) hW (fun rm x1 x2 x3 x4 => cwV 1 C0.1.2.2.2.2 gL_areQueues_X3_told rfl x1 x2 (by decide +kernel) ⟨by show _ ≤ 8; omega, by show _ ≤ 190; omega⟩) hS (fun _ h => h) rfl rfl rfl hl.1 (Nat.le_of_ble_eq_true rfl) dL_areQueues_373 ⟨Nat.le_of_ble_eq_true rfl, Nat.le_of_ble_eq_true rfl⟩ (fun H1 locs1 hW hF hS1 => ?_)
  clear hS
  have hS := hS1
  clear hS1 hF
  refine mr_top (y := nI (totN w)) (rfl) ?_
  refine lv_iload_n hx hb dL_areQueues_376 rfl (lv_at hl 3 rfl) ?_
  refine lv_icmp_ne (tgt := 429) hx hb dL_areQueues_377 (by decide) (fun c377 => absurd rfl c377) (fun c377 => ?_)
  clear c377
  refine lv_aload_n hx hb dL_areQueues_380 rfl (lv_at hl 2 rfl) ?_
  refine lv_iconst (v := nI 4) hx hb dL_areQueues_381 (by decide) ?_
  refine mo_call (x := x) (As := [.int (nI 4)]) (rest := []) (st1 := [.int (fTold n w 4)]) C0 (op_told (by decide)) hW (fun rm x1 x2 x3 x4 => cwV 1 C0.1.2.2.2.2 gL_areQueues_X3_told rfl x1 x2 (by decide +kernel) ⟨by show _ ≤ 8; omega, by show _ ≤ 190; omega⟩) hS (fun _ h => h) rfl rfl rfl hl.1 (Nat.le_of_ble_eq_true rfl) dL_areQueues_382 ⟨Nat.le_of_ble_eq_true rfl, Nat.le_of_ble_eq_true rfl⟩ (fun H1 locs1 hW hF hS1 => ?_)
  clear hS
  have hS := hS1
  clear hS1 hF
  refine mr_top (y := nI (allN w)) (rfl) ?_
  refine lv_iload_n hx hb dL_areQueues_385 rfl (lv_at hl 4 rfl) ?_
  refine lv_icmp_ne (tgt := 429) hx hb dL_areQueues_386 (by decide) (fun c386 => absurd rfl c386) (fun c386 => ?_)
  clear c386
  refine lv_aload_n hx hb dL_areQueues_389 rfl (lv_at hl 2 rfl) ?_
  refine lv_bipush (v := nI 7) hx hb dL_areQueues_390 (by decide) ?_
  refine mo_call (x := x) (As := [.int (nI 7)]) (rest := []) (st1 := [.int (fTold n w 7)]) C0 (op_told (by decide)) hW (fun rm x1 x2 x3 x4 => cwV 1 C0.1.2.2.2.2 gL_areQueues_X3_told rfl x1 x2 (by decide +kernel) ⟨by show _ ≤ 8; omega, by show _ ≤ 190; omega⟩) hS (fun _ h => h) rfl rfl rfl hl.1 (Nat.le_of_ble_eq_true rfl) dL_areQueues_392 ⟨Nat.le_of_ble_eq_true rfl, Nat.le_of_ble_eq_true rfl⟩ (fun H1 locs1 hW hF hS1 => ?_)
  clear hS
  have hS := hS1
  clear hS1 hF
  refine mr_top (y := nI (cndN w)) (rfl) ?_
  refine lv_iload_n hx hb dL_areQueues_395 rfl (lv_at hl 5 rfl) ?_
  refine lv_icmp_ne (tgt := 429) hx hb dL_areQueues_396 (by decide) (fun c396 => absurd rfl c396) (fun c396 => ?_)
  clear c396
  refine lv_aload_n hx hb dL_areQueues_399 rfl (lv_at hl 2 rfl) ?_
  refine lv_iconst (v := nI 2) hx hb dL_areQueues_400 (by decide) ?_
  refine mo_call (x := x) (As := [.int (nI 2)]) (rest := []) (st1 := [.int (fTold n w 2)]) C0 (op_told (by decide)) hW (fun rm x1 x2 x3 x4 => cwV 1 C0.1.2.2.2.2 gL_areQueues_X3_told rfl x1 x2 (by decide +kernel) ⟨by show _ ≤ 8; omega, by show _ ≤ 190; omega⟩) hS (fun _ h => h) rfl rfl rfl hl.1 (Nat.le_of_ble_eq_true rfl) dL_areQueues_401 ⟨Nat.le_of_ble_eq_true rfl, Nat.le_of_ble_eq_true rfl⟩ (fun H1 locs1 hW hF hS1 => ?_)
  clear hS
  have hS := hS1
  clear hS1 hF
  refine mr_top (y := w 265) (rfl) ?_
  refine lv_aload_n hx hb dL_areQueues_404 rfl (lv_at hl 2 rfl) ?_
  refine lv_iconst (v := nI 3) hx hb dL_areQueues_405 (by decide) ?_
  refine mo_call (x := x) (As := [.int (nI 3)]) (rest := [.int (w 265)]) (st1 := [.int (fTold n w 3), .int (w 265)]) C0 (op_told (by decide)) hW (fun rm x1 x2 x3 x4 => cwV 1 C0.1.2.2.2.2 gL_areQueues_X3_told rfl x1 x2 (by decide +kernel) ⟨by show _ ≤ 8; omega, by show _ ≤ 190; omega⟩) hS (fun _ h => h) rfl rfl rfl hl.1 (Nat.le_of_ble_eq_true rfl) dL_areQueues_406 ⟨Nat.le_of_ble_eq_true rfl, Nat.le_of_ble_eq_true rfl⟩ (fun H1 locs1 hW hF hS1 => ?_)
  clear hS
  have hS := hS1
  clear hS1 hF
  refine mr_top (y := w 266) (rfl) ?_
  refine lv_iload_n hx hb dL_areQueues_409 rfl (lv_at hl 3 rfl) ?_
  refine lv_iadd hx hb dL_areQueues_410 ?_
  refine lv_icmp_ne (tgt := 429) hx hb dL_areQueues_411 (by decide) (fun c411 => absurd hE.2.1 c411) (fun c411 => ?_)
  clear c411
  refine lv_aload_n hx hb dL_areQueues_414 rfl (lv_at hl 2 rfl) ?_
  refine lv_bipush (v := nI 9) hx hb dL_areQueues_415 (by decide) ?_
  refine mo_call (x := x) (As := [.int (nI 9)]) (rest := []) (st1 := [.int (fTold n w 9)]) C0 (op_told (by decide)) hW (fun rm x1 x2 x3 x4 => cwV 1 C0.1.2.2.2.2 gL_areQueues_X3_told rfl x1 x2 (by decide +kernel) ⟨by show _ ≤ 8; omega, by show _ ≤ 190; omega⟩) hS (fun _ h => h) rfl rfl rfl hl.1 (Nat.le_of_ble_eq_true rfl) dL_areQueues_417 ⟨Nat.le_of_ble_eq_true rfl, Nat.le_of_ble_eq_true rfl⟩ (fun H1 locs1 hW hF hS1 => ?_)
  clear hS
  have hS := hS1
  clear hS1 hF
  refine mr_top (y := nI (lgM w)) (rfl) ?_
  refine lv_bipush (v := nI 40) hx hb dL_areQueues_420 (by decide) ?_
  refine mr_gtN (x := lgM w) (y := 40) (tgt := 429) C0 dL_areQueues_422 (by decide) (by have := hG.1.2.2.2.2.2; omega) (by decide) (fun c422 => absurd c422 (by have := hG.1.2.2.2.2.2; omega)) (fun c422 => ?_)
  clear c422
  refine lv_iconst (v := nI 1) hx hb dL_areQueues_425 (by decide) ?_
  refine lv_goto (tgt := 430) hx hb dL_areQueues_426 (by decide) ?_
  refine mr_top (y := bI true) (by decide) ?_
  exact mr_zret (b := true) C0 hr hlk hQ hS rfl hW (Nat.le_refl _) (Nat.le_refl _) dL_areQueues_430
set_option maxHeartbeats 4000000 in
set_option maxRecDepth 100000 in
theorem ctL_areQueues {l : Launch} {D : va_G} {T : Nat → ClassId} {x n t : Nat} {w : Nat → Int32} {P Q : Nat → Nat → Int32} {kp : Nat → Bool} (ht : t < 1000) (hG : Good w t) (hE : Ex w) :
    Ct l yL_areQueues wsL_areQueues { frames := 8, cells := 0, slots := 0, locals := 190 } 0 0 D T (Rg x) [.ref x] (fun H => Wo D T x t (n, w, P, Q, kp) H) (some (.int (bI true))) (fun H => Wo D T x t (n, w, P, Q, kp) H) := by
  refine Ct.ofW (cc := cL_areQueues) (maxL := 8) (ret := (some .boolean)) (by decide) rfl (Nat.le_of_ble_eq_true rfl) ?_
  intro p e s m args below meth c ls R Qq hR hQ C0 hr hlk hname hW hl
  have hS : va_S (Rg x) s.heap s.heap [] := va_S.rf
  have hl : lv_has ls 8 [(0, .ref x)] := hl
  have hx := C0.1.1
  have hb := C0.1.2.1
  subst hR
  refine lv_iconst (v := nI 0) hx hb dL_areQueues_0 (by decide) ?_
  refine lv_istore_n (lv' := [(1, .int (nI 0)), (0, .ref x)]) hx hb dL_areQueues_1 rfl hl (by decide) rfl (fun ls hl => ?_)
  refine lv_iconst (v := nI 0) hx hb dL_areQueues_2 (by decide) ?_
  refine lv_istore_n (lv' := [(2, .int (nI 0)), (1, .int (nI 0)), (0, .ref x)]) hx hb dL_areQueues_3 rfl hl (by decide) rfl (fun ls hl => ?_)
  refine lv_iconst (v := nI 0) hx hb dL_areQueues_4 (by decide) ?_
  refine lv_istore_n (lv' := [(3, .int (nI 0)), (2, .int (nI 0)), (1, .int (nI 0)), (0, .ref x)]) hx hb dL_areQueues_5 rfl hl (by decide) rfl (fun ls hl => ?_)
  refine lv_iconst (v := nI 0) hx hb dL_areQueues_6 (by decide) ?_
  refine lv_istore (lv' := [(4, .int (nI 0)), (3, .int (nI 0)), (2, .int (nI 0)), (1, .int (nI 0)), (0, .ref x)]) hx hb dL_areQueues_7 hl (by decide) rfl (fun ls hl => ?_)
  refine aq_loop C0 rfl ht hG hE (fun H1 locs1 ls1 hW1 hS1 hl1 => ?_) 8 0 _ _ _ rfl hW hS (lv_sub hl [4, 3, 2, 1, 0] rfl)
  have hl2 := lv_sub hl1 [0, 1, 2, 3] rfl
  have e1 : qA w 8 = totN w := tot_lp w
  rw [e1] at hl2
  rcases Nat.eq_zero_or_pos (totN w) with h0 | h0
  · exact aq_z C0 rfl ht hG hE hr hlk hQ h0 hW1 hS1 hl2
  · exact aq_n C0 rfl ht hG hE hr hlk hQ h0 hW1 hS1 hl2
