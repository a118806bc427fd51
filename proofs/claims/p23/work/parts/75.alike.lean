/-! part 75: areAlike (laid by wip/p23/lay11.py) -/
set_option maxHeartbeats 4000000 in
set_option maxRecDepth 100000 in
theorem aa_1 {p : Program} {l : Launch} {e : Env} {R : Room} {s : State} {m : MethodId} {args : Array Value} {below : List Frame} {meth : Method} {c : Code} {Qq : State → Prop} {D : va_G} {T : Nat → ClassId} {H0 : Heap} {x y n t : Nat} {w : Nat → Int32} {P Q : Nat → Nat → Int32} {kp : Nat → Bool}  (C0 : Cx p s m args c cL_areAlike 5 wsL_areAlike RL D T) (hR : R = { frames := 8, cells := 0, slots := 0, locals := 190 }) (hap : ∀ q, Rg x q → ¬ Rg y q) 
    (kk : ∀ (H1 : Heap) (locs1 : List Loc) (ls1 : Array Slot), Wo D T x t (n, w, P, Q, kp) H1 → Wo D T y t (n, w, P, Q, kp) H1 → va_S (fun q => Rg x q ∨ Rg y q) H0 H1 locs1 → lv_has ls1 5 [(0, .ref x), (1, .ref y), (2, .int (nI 1)), (3, .int (nI 12))] → W p l e R s m args below meth c H1 locs1 0 0 Qq (F0 m 39 ls1 [])) :
    ∀ (r k : Nat) (H : Heap) (locs : List Loc) (ls : Array Slot), k + r = 12 → Wo D T x t (n, w, P, Q, kp) H → Wo D T y t (n, w, P, Q, kp) H → va_S (fun q => Rg x q ∨ Rg y q) H0 H locs → lv_has ls 5 [(0, .ref x), (1, .ref y), (2, .int (nI 1)), (3, .int (nI k))] → W p l e R s m args below meth c H locs 0 0 Qq (F0 m 4 ls []) := by
  have hx := C0.1.1
  have hb := C0.1.2.1
  subst hR
  intro r
  induction r with
  | zero =>
    intro k H locs ls hk hW hV hS hl
    have e : k = 12 := by omega
    subst e
    refine lv_iload_n hx hb dL_areAlike_4 rfl (lv_at hl 3 rfl) ?_
    refine lv_bipush (v := nI 12) hx hb dL_areAlike_5 (by decide) ?_
    refine mr_geN (x := 12) (y := 12) (tgt := 39) C0 dL_areAlike_7 (by decide) (by omega) (by omega) (fun c => ?_) (fun c => absurd c (by omega))
    exact kk _ _ _ hW hV hS hl
  | succ r ih =>
    intro k H locs ls hk hW hV hS hl
    have hlt : k < 12 := by omega
    refine lv_iload_n hx hb dL_areAlike_4 rfl (lv_at hl 3 rfl) ?_
    refine lv_bipush (v := nI 12) hx hb dL_areAlike_5 (by decide) ?_
    refine mr_geN (x := k) (y := 12) (tgt := 39) C0 dL_areAlike_7 (by decide) (by omega) (by omega) (fun c7 => absurd c7 (by omega)) (fun c7 => ?_)
    clear c7
    refine lv_iload_n hx hb dL_areAlike_10 rfl (lv_at hl 2 rfl) ?_
    refine mr_eq0N (x := 1) (tgt := 31) C0 dL_areAlike_11 (by decide) (by decide) (fun c11 => absurd c11 (by omega)) (fun c11 => ?_)
    clear c11
    refine lv_aload_n hx hb dL_areAlike_14 rfl (lv_at hl 0 rfl) ?_
    refine lv_iload_n hx hb dL_areAlike_15 rfl (lv_at hl 3 rfl) ?_
    refine mo_call (x := x) (As := [.int (nI k)]) (rest := []) (st1 := [.int (fTold n w k)]) C0 (op_told (by omega)) hW (fun rm x1 x2 x3 x4 => cwV 1 C0.1.2.2.2.2 gL_areAlike_X3_told rfl x1 x2 (by decide +kernel) ⟨by show _ ≤ 8; omega, by show _ ≤ 190; omega⟩) hS (fun _ h => Or.inl h) rfl rfl rfl hl.1 (Nat.le_of_ble_eq_true rfl) dL_areAlike_16 ⟨Nat.le_of_ble_eq_true rfl, Nat.le_of_ble_eq_true rfl⟩ (fun H1 locs1 hW hF hS1 => ?_)
    replace hV := Wo_frame hV (fun q h1 h2 => hF.2 q h1 (fun z => hap q z h2))
    clear hS
    have hS := hS1
    clear hS1 hF
    refine lv_aload_n hx hb dL_areAlike_19 rfl (lv_at hl 1 rfl) ?_
    refine lv_iload_n hx hb dL_areAlike_20 rfl (lv_at hl 3 rfl) ?_
    refine mo_call (x := y) (As := [.int (nI k)]) (rest := [.int (fTold n w k)]) (st1 := [.int (fTold n w k), .int (fTold n w k)]) C0 (op_told (by omega)) hV (fun rm x1 x2 x3 x4 => cwV 1 C0.1.2.2.2.2 gL_areAlike_X3_told rfl x1 x2 (by decide +kernel) ⟨by show _ ≤ 8; omega, by show _ ≤ 190; omega⟩) hS (fun _ h => Or.inr h) rfl rfl rfl hl.1 (Nat.le_of_ble_eq_true rfl) dL_areAlike_21 ⟨Nat.le_of_ble_eq_true rfl, Nat.le_of_ble_eq_true rfl⟩ (fun H1 locs1 hV hF hS1 => ?_)
    replace hW := Wo_frame hW (fun q h1 h2 => hF.2 q h1 (hap q h2))
    clear hS
    have hS := hS1
    clear hS1 hF
    refine lv_icmp_ne (tgt := 31) hx hb dL_areAlike_24 (by decide) (fun c24 => absurd rfl c24) (fun c24 => ?_)
    clear c24
    refine lv_iconst (v := nI 1) hx hb dL_areAlike_27 (by decide) ?_
    refine lv_goto (tgt := 32) hx hb dL_areAlike_28 (by decide) ?_
    refine lv_istore_n (lv' := [(2, .int (nI 1)), (0, .ref x), (1, .ref y), (3, .int (nI k))]) hx hb dL_areAlike_32 rfl hl (by decide) rfl (fun ls hl => ?_)
    refine lv_iinc (k := 3) (v := nI (k + 1)) (lv' := [(3, .int (nI (k + 1))), (2, .int (nI 1)), (0, .ref x), (1, .ref y)]) hx hb dL_areAlike_33 hl rfl (by rw [show Int32.ofInt 1 = nI 1 from by decide, nI_add]) (by decide) rfl (fun ls hl => ?_)
    refine lv_goto (tgt := 4) hx hb dL_areAlike_36 (by decide) ?_
    exact ih (k + 1) _ _ _ (by omega) hW hV hS (lv_sub hl [2, 3, 1, 0] rfl)
set_option maxHeartbeats 4000000 in
set_option maxRecDepth 100000 in
theorem aa_2 {p : Program} {l : Launch} {e : Env} {R : Room} {s : State} {m : MethodId} {args : Array Value} {below : List Frame} {meth : Method} {c : Code} {Qq : State → Prop} {D : va_G} {T : Nat → ClassId} {H0 : Heap} {x y n t : Nat} {w : Nat → Int32} {P Q : Nat → Nat → Int32} {kp : Nat → Bool} {s0 : Nat} (C0 : Cx p s m args c cL_areAlike 5 wsL_areAlike RL D T) (hR : R = { frames := 8, cells := 0, slots := 0, locals := 190 }) (hap : ∀ q, Rg x q → ¬ Rg y q) (hs : s0 < 8)
    (kk : ∀ (H1 : Heap) (locs1 : List Loc) (ls1 : Array Slot), Wo D T x t (n, w, P, Q, kp) H1 → Wo D T y t (n, w, P, Q, kp) H1 → va_S (fun q => Rg x q ∨ Rg y q) H0 H1 locs1 → lv_has ls1 5 [(0, .ref x), (1, .ref y), (2, .int (nI 1)), (3, .int (nI s0)), (4, .int (nI 8))] → W p l e R s m args below meth c H1 locs1 0 0 Qq (F0 m 90 ls1 [])) :
    ∀ (r k : Nat) (H : Heap) (locs : List Loc) (ls : Array Slot), k + r = 8 → Wo D T x t (n, w, P, Q, kp) H → Wo D T y t (n, w, P, Q, kp) H → va_S (fun q => Rg x q ∨ Rg y q) H0 H locs → lv_has ls 5 [(0, .ref x), (1, .ref y), (2, .int (nI 1)), (3, .int (nI s0)), (4, .int (nI k))] → W p l e R s m args below meth c H locs 0 0 Qq (F0 m 50 ls []) := by
  have hx := C0.1.1
  have hb := C0.1.2.1
  subst hR
  intro r
  induction r with
  | zero =>
    intro k H locs ls hk hW hV hS hl
    have e : k = 8 := by omega
    subst e
    refine lv_iload hx hb dL_areAlike_50 (lv_at hl 4 rfl) ?_
    refine lv_bipush (v := nI 8) hx hb dL_areAlike_52 (by decide) ?_
    refine mr_geN (x := 8) (y := 8) (tgt := 90) C0 dL_areAlike_54 (by decide) (by omega) (by omega) (fun c => ?_) (fun c => absurd c (by omega))
    exact kk _ _ _ hW hV hS hl
  | succ r ih =>
    intro k H locs ls hk hW hV hS hl
    have hlt : k < 8 := by omega
    refine lv_iload hx hb dL_areAlike_50 (lv_at hl 4 rfl) ?_
    refine lv_bipush (v := nI 8) hx hb dL_areAlike_52 (by decide) ?_
    refine mr_geN (x := k) (y := 8) (tgt := 90) C0 dL_areAlike_54 (by decide) (by omega) (by omega) (fun c54 => absurd c54 (by omega)) (fun c54 => ?_)
    clear c54
    refine lv_iload_n hx hb dL_areAlike_57 rfl (lv_at hl 2 rfl) ?_
    refine mr_eq0N (x := 1) (tgt := 82) C0 dL_areAlike_58 (by decide) (by decide) (fun c58 => absurd c58 (by omega)) (fun c58 => ?_)
    clear c58
    refine lv_aload_n hx hb dL_areAlike_61 rfl (lv_at hl 0 rfl) ?_
    refine lv_iload_n hx hb dL_areAlike_62 rfl (lv_at hl 3 rfl) ?_
    refine lv_iload hx hb dL_areAlike_63 (lv_at hl 4 rfl) ?_
    refine mo_call (x := x) (As := [.int (nI s0), .int (nI k)]) (rest := []) (st1 := [.int (fStrm w t s0 k)]) C0 (op_stream hs (by omega)) hW (fun rm x1 x2 x3 x4 => cwV 2 C0.1.2.2.2.2 gL_areAlike_X3_stream rfl x1 x2 (by decide +kernel) ⟨by show _ ≤ 8; omega, by show _ ≤ 190; omega⟩) hS (fun _ h => Or.inl h) rfl rfl rfl hl.1 (Nat.le_of_ble_eq_true rfl) dL_areAlike_65 ⟨Nat.le_of_ble_eq_true rfl, Nat.le_of_ble_eq_true rfl⟩ (fun H1 locs1 hW hF hS1 => ?_)
    replace hV := Wo_frame hV (fun q h1 h2 => hF.2 q h1 (fun z => hap q z h2))
    clear hS
    have hS := hS1
    clear hS1 hF
    refine lv_aload_n hx hb dL_areAlike_68 rfl (lv_at hl 1 rfl) ?_
    refine lv_iload_n hx hb dL_areAlike_69 rfl (lv_at hl 3 rfl) ?_
    refine lv_iload hx hb dL_areAlike_70 (lv_at hl 4 rfl) ?_
    refine mo_call (x := y) (As := [.int (nI s0), .int (nI k)]) (rest := [.int (fStrm w t s0 k)]) (st1 := [.int (fStrm w t s0 k), .int (fStrm w t s0 k)]) C0 (op_stream hs (by omega)) hV (fun rm x1 x2 x3 x4 => cwV 2 C0.1.2.2.2.2 gL_areAlike_X3_stream rfl x1 x2 (by decide +kernel) ⟨by show _ ≤ 8; omega, by show _ ≤ 190; omega⟩) hS (fun _ h => Or.inr h) rfl rfl rfl hl.1 (Nat.le_of_ble_eq_true rfl) dL_areAlike_72 ⟨Nat.le_of_ble_eq_true rfl, Nat.le_of_ble_eq_true rfl⟩ (fun H1 locs1 hV hF hS1 => ?_)
    replace hW := Wo_frame hW (fun q h1 h2 => hF.2 q h1 (hap q h2))
    clear hS
    have hS := hS1
    clear hS1 hF
    refine lv_icmp_ne (tgt := 82) hx hb dL_areAlike_75 (by decide) (fun c75 => absurd rfl c75) (fun c75 => ?_)
    clear c75
    refine lv_iconst (v := nI 1) hx hb dL_areAlike_78 (by decide) ?_
    refine lv_goto (tgt := 83) hx hb dL_areAlike_79 (by decide) ?_
    refine lv_istore_n (lv' := [(2, .int (nI 1)), (0, .ref x), (1, .ref y), (3, .int (nI s0)), (4, .int (nI k))]) hx hb dL_areAlike_83 rfl hl (by decide) rfl (fun ls hl => ?_)
    refine lv_iinc (k := 4) (v := nI (k + 1)) (lv' := [(4, .int (nI (k + 1))), (2, .int (nI 1)), (0, .ref x), (1, .ref y), (3, .int (nI s0))]) hx hb dL_areAlike_84 hl rfl (by rw [show Int32.ofInt 1 = nI 1 from by decide, nI_add]) (by decide) rfl (fun ls hl => ?_)
    refine lv_goto (tgt := 50) hx hb dL_areAlike_87 (by decide) ?_
    exact ih (k + 1) _ _ _ (by omega) hW hV hS (lv_sub hl [2, 3, 1, 4, 0] rfl)
set_option maxHeartbeats 4000000 in
set_option maxRecDepth 100000 in
theorem aa_3 {p : Program} {l : Launch} {e : Env} {R : Room} {s : State} {m : MethodId} {args : Array Value} {below : List Frame} {meth : Method} {c : Code} {Qq : State → Prop} {D : va_G} {T : Nat → ClassId} {H0 : Heap} {x y n t : Nat} {w : Nat → Int32} {P Q : Nat → Nat → Int32} {kp : Nat → Bool}  (C0 : Cx p s m args c cL_areAlike 5 wsL_areAlike RL D T) (hR : R = { frames := 8, cells := 0, slots := 0, locals := 190 }) (hap : ∀ q, Rg x q → ¬ Rg y q) 
    (kk : ∀ (H1 : Heap) (locs1 : List Loc) (ls1 : Array Slot), Wo D T x t (n, w, P, Q, kp) H1 → Wo D T y t (n, w, P, Q, kp) H1 → va_S (fun q => Rg x q ∨ Rg y q) H0 H1 locs1 → lv_has ls1 5 [(0, .ref x), (1, .ref y), (2, .int (nI 1)), (3, .int (nI 8))] → W p l e R s m args below meth c H1 locs1 0 0 Qq (F0 m 96 ls1 [])) :
    ∀ (r s0 : Nat) (H : Heap) (locs : List Loc) (ls : Array Slot), s0 + r = 8 → Wo D T x t (n, w, P, Q, kp) H → Wo D T y t (n, w, P, Q, kp) H → va_S (fun q => Rg x q ∨ Rg y q) H0 H locs → lv_has ls 5 [(0, .ref x), (1, .ref y), (2, .int (nI 1)), (3, .int (nI s0))] → W p l e R s m args below meth c H locs 0 0 Qq (F0 m 41 ls []) := by
  have hx := C0.1.1
  have hb := C0.1.2.1
  subst hR
  intro r
  induction r with
  | zero =>
    intro s0 H locs ls hk hW hV hS hl
    have e : s0 = 8 := by omega
    subst e
    refine lv_iload_n hx hb dL_areAlike_41 rfl (lv_at hl 3 rfl) ?_
    refine lv_bipush (v := nI 8) hx hb dL_areAlike_42 (by decide) ?_
    refine mr_geN (x := 8) (y := 8) (tgt := 96) C0 dL_areAlike_44 (by decide) (by omega) (by omega) (fun c => ?_) (fun c => absurd c (by omega))
    exact kk _ _ _ hW hV hS hl
  | succ r ih =>
    intro s0 H locs ls hk hW hV hS hl
    have hlt : s0 < 8 := by omega
    refine lv_iload_n hx hb dL_areAlike_41 rfl (lv_at hl 3 rfl) ?_
    refine lv_bipush (v := nI 8) hx hb dL_areAlike_42 (by decide) ?_
    refine mr_geN (x := s0) (y := 8) (tgt := 96) C0 dL_areAlike_44 (by decide) (by omega) (by omega) (fun c44 => absurd c44 (by omega)) (fun c44 => ?_)
    clear c44
    refine lv_iconst (v := nI 0) hx hb dL_areAlike_47 (by decide) ?_
    refine lv_istore (lv' := [(4, .int (nI 0)), (0, .ref x), (1, .ref y), (2, .int (nI 1)), (3, .int (nI s0))]) hx hb dL_areAlike_48 hl (by decide) rfl (fun ls hl => ?_)
    refine aa_2 C0 rfl hap hlt (fun H1 locs1 ls1 hW1 hV1 hS1 hl1 => ?_) 8 0 _ _ _ rfl hW hV hS (lv_sub hl [1, 2, 3, 4, 0] rfl)
    · clear hl
      have hl := hl1
      refine lv_iinc (k := 3) (v := nI (s0 + 1)) (lv' := [(3, .int (nI (s0 + 1))), (0, .ref x), (1, .ref y), (2, .int (nI 1)), (4, .int (nI 8))]) hx hb dL_areAlike_90 hl rfl (by rw [show Int32.ofInt 1 = nI 1 from by decide, nI_add]) (by decide) rfl (fun ls hl => ?_)
      refine lv_goto (tgt := 41) hx hb dL_areAlike_93 (by decide) ?_
      exact ih (s0 + 1) _ _ _ (by omega) hW1 hV1 hS1 (lv_sub hl [1, 2, 3, 0] rfl)
set_option maxHeartbeats 4000000 in
set_option maxRecDepth 100000 in
theorem aa_4 {p : Program} {l : Launch} {e : Env} {R : Room} {s : State} {m : MethodId} {args : Array Value} {below : List Frame} {meth : Method} {c : Code} {Qq : State → Prop} {D : va_G} {T : Nat → ClassId} {H0 : Heap} {x y n t : Nat} {w : Nat → Int32} {P Q : Nat → Nat → Int32} {kp : Nat → Bool}  (C0 : Cx p s m args c cL_areAlike 5 wsL_areAlike RL D T) (hR : R = { frames := 8, cells := 0, slots := 0, locals := 190 }) (hap : ∀ q, Rg x q → ¬ Rg y q) (hl40 : lgM w ≤ 40)
    (kk : ∀ (H1 : Heap) (locs1 : List Loc) (ls1 : Array Slot), Wo D T x t (n, w, P, Q, kp) H1 → Wo D T y t (n, w, P, Q, kp) H1 → va_S (fun q => Rg x q ∨ Rg y q) H0 H1 locs1 → lv_has ls1 5 [(0, .ref x), (1, .ref y), (2, .int (nI 1)), (3, .int (nI (lgM w)))] → W p l e R s m args below meth c H1 locs1 0 0 Qq (F0 m 154 ls1 [])) :
    ∀ (r k : Nat) (H : Heap) (locs : List Loc) (ls : Array Slot), k + r = (lgM w) → Wo D T x t (n, w, P, Q, kp) H → Wo D T y t (n, w, P, Q, kp) H → va_S (fun q => Rg x q ∨ Rg y q) H0 H locs → lv_has ls 5 [(0, .ref x), (1, .ref y), (2, .int (nI 1)), (3, .int (nI k))] → W p l e R s m args below meth c H locs 0 0 Qq (F0 m 98 ls []) := by
  have hx := C0.1.1
  have hb := C0.1.2.1
  subst hR
  intro r
  induction r with
  | zero =>
    intro k H locs ls hk hW hV hS hl
    have e : k = (lgM w) := by omega
    subst e
    refine lv_iload_n hx hb dL_areAlike_98 rfl (lv_at hl 3 rfl) ?_
    refine lv_aload_n hx hb dL_areAlike_99 rfl (lv_at hl 0 rfl) ?_
    refine lv_bipush (v := nI 9) hx hb dL_areAlike_100 (by decide) ?_
    refine mo_call (x := x) (As := [.int (nI 9)]) (rest := [.int (nI (lgM w))]) (st1 := [.int (fTold n w 9), .int (nI (lgM w))]) C0 (op_told (by decide)) hW (fun rm x1 x2 x3 x4 => cwV 1 C0.1.2.2.2.2 gL_areAlike_X3_told rfl x1 x2 (by decide +kernel) ⟨by show _ ≤ 8; omega, by show _ ≤ 190; omega⟩) hS (fun _ h => Or.inl h) rfl rfl rfl hl.1 (Nat.le_of_ble_eq_true rfl) dL_areAlike_102 ⟨Nat.le_of_ble_eq_true rfl, Nat.le_of_ble_eq_true rfl⟩ (fun H1 locs1 hW hF hS1 => ?_)
    replace hV := Wo_frame hV (fun q h1 h2 => hF.2 q h1 (fun z => hap q z h2))
    clear hS
    have hS := hS1
    clear hS1 hF
    refine mr_top (y := nI (lgM w)) (rfl) ?_
    refine mr_geN (x := lgM w) (y := lgM w) (tgt := 154) C0 dL_areAlike_105 (by decide) (by omega) (by omega) (fun c105 => ?_) (fun c105 => absurd c105 (by omega))
    clear c105
    exact kk _ _ _ hW hV hS (lv_sub hl [0, 1, 2, 3] rfl)
  | succ r ih =>
    intro k H locs ls hk hW hV hS hl
    have hlt : k < (lgM w) := by omega
    refine lv_iload_n hx hb dL_areAlike_98 rfl (lv_at hl 3 rfl) ?_
    refine lv_aload_n hx hb dL_areAlike_99 rfl (lv_at hl 0 rfl) ?_
    refine lv_bipush (v := nI 9) hx hb dL_areAlike_100 (by decide) ?_
    refine mo_call (x := x) (As := [.int (nI 9)]) (rest := [.int (nI k)]) (st1 := [.int (fTold n w 9), .int (nI k)]) C0 (op_told (by decide)) hW (fun rm x1 x2 x3 x4 => cwV 1 C0.1.2.2.2.2 gL_areAlike_X3_told rfl x1 x2 (by decide +kernel) ⟨by show _ ≤ 8; omega, by show _ ≤ 190; omega⟩) hS (fun _ h => Or.inl h) rfl rfl rfl hl.1 (Nat.le_of_ble_eq_true rfl) dL_areAlike_102 ⟨Nat.le_of_ble_eq_true rfl, Nat.le_of_ble_eq_true rfl⟩ (fun H1 locs1 hW hF hS1 => ?_)
    replace hV := Wo_frame hV (fun q h1 h2 => hF.2 q h1 (fun z => hap q z h2))
    clear hS
    have hS := hS1
    clear hS1 hF
    refine mr_top (y := nI (lgM w)) (rfl) ?_
    refine mr_geN (x := k) (y := lgM w) (tgt := 154) C0 dL_areAlike_105 (by decide) (by omega) (by omega) (fun c105 => absurd c105 (by omega)) (fun c105 => ?_)
    clear c105
    refine lv_iload_n hx hb dL_areAlike_108 rfl (lv_at hl 2 rfl) ?_
    refine mr_eq0N (x := 1) (tgt := 146) C0 dL_areAlike_109 (by decide) (by decide) (fun c109 => absurd c109 (by omega)) (fun c109 => ?_)
    clear c109
    refine lv_aload_n hx hb dL_areAlike_112 rfl (lv_at hl 0 rfl) ?_
    refine lv_iload_n hx hb dL_areAlike_113 rfl (lv_at hl 3 rfl) ?_
    refine lv_iconst (v := nI 0) hx hb dL_areAlike_114 (by decide) ?_
    refine mo_call (x := x) (As := [.int (nI k), .int (nI 0)]) (rest := []) (st1 := [.int (w (268 + 4 * k + 0))]) C0 (op_log (by decide) hlt) hW (fun rm x1 x2 x3 x4 => cwV 2 C0.1.2.2.2.2 gL_areAlike_X3_log rfl x1 x2 (by decide +kernel) ⟨by show _ ≤ 8; omega, by show _ ≤ 190; omega⟩) hS (fun _ h => Or.inl h) rfl rfl rfl hl.1 (Nat.le_of_ble_eq_true rfl) dL_areAlike_115 ⟨Nat.le_of_ble_eq_true rfl, Nat.le_of_ble_eq_true rfl⟩ (fun H1 locs1 hW hF hS1 => ?_)
    replace hV := Wo_frame hV (fun q h1 h2 => hF.2 q h1 (fun z => hap q z h2))
    clear hS
    have hS := hS1
    clear hS1 hF
    refine lv_aload_n hx hb dL_areAlike_118 rfl (lv_at hl 1 rfl) ?_
    refine lv_iload_n hx hb dL_areAlike_119 rfl (lv_at hl 3 rfl) ?_
    refine lv_iconst (v := nI 0) hx hb dL_areAlike_120 (by decide) ?_
    refine mo_call (x := y) (As := [.int (nI k), .int (nI 0)]) (rest := [.int (w (268 + 4 * k + 0))]) (st1 := [.int (w (268 + 4 * k + 0)), .int (w (268 + 4 * k + 0))]) C0 (op_log (by decide) hlt) hV (fun rm x1 x2 x3 x4 => cwV 2 C0.1.2.2.2.2 gL_areAlike_X3_log rfl x1 x2 (by decide +kernel) ⟨by show _ ≤ 8; omega, by show _ ≤ 190; omega⟩) hS (fun _ h => Or.inr h) rfl rfl rfl hl.1 (Nat.le_of_ble_eq_true rfl) dL_areAlike_121 ⟨Nat.le_of_ble_eq_true rfl, Nat.le_of_ble_eq_true rfl⟩ (fun H1 locs1 hV hF hS1 => ?_)
    replace hW := Wo_frame hW (fun q h1 h2 => hF.2 q h1 (hap q h2))
    clear hS
    have hS := hS1
    clear hS1 hF
    refine lv_icmp_ne (tgt := 146) hx hb dL_areAlike_124 (by decide) (fun c124 => absurd rfl c124) (fun c124 => ?_)
    clear c124
    refine lv_aload_n hx hb dL_areAlike_127 rfl (lv_at hl 0 rfl) ?_
    refine lv_iload_n hx hb dL_areAlike_128 rfl (lv_at hl 3 rfl) ?_
    refine lv_iconst (v := nI 1) hx hb dL_areAlike_129 (by decide) ?_
    refine mo_call (x := x) (As := [.int (nI k), .int (nI 1)]) (rest := []) (st1 := [.int (w (268 + 4 * k + 1))]) C0 (op_log (by decide) hlt) hW (fun rm x1 x2 x3 x4 => cwV 2 C0.1.2.2.2.2 gL_areAlike_X3_log rfl x1 x2 (by decide +kernel) ⟨by show _ ≤ 8; omega, by show _ ≤ 190; omega⟩) hS (fun _ h => Or.inl h) rfl rfl rfl hl.1 (Nat.le_of_ble_eq_true rfl) dL_areAlike_130 ⟨Nat.le_of_ble_eq_true rfl, Nat.le_of_ble_eq_true rfl⟩ (fun H1 locs1 hW hF hS1 => ?_)
    replace hV := Wo_frame hV (fun q h1 h2 => hF.2 q h1 (fun z => hap q z h2))
    clear hS
    have hS := hS1
    clear hS1 hF
    refine lv_aload_n hx hb dL_areAlike_133 rfl (lv_at hl 1 rfl) ?_
    refine lv_iload_n hx hb dL_areAlike_134 rfl (lv_at hl 3 rfl) ?_
    refine lv_iconst (v := nI 1) hx hb dL_areAlike_135 (by decide) ?_
    refine mo_call (x := y) (As := [.int (nI k), .int (nI 1)]) (rest := [.int (w (268 + 4 * k + 1))]) (st1 := [.int (w (268 + 4 * k + 1)), .int (w (268 + 4 * k + 1))]) C0 (op_log (by decide) hlt) hV (fun rm x1 x2 x3 x4 => cwV 2 C0.1.2.2.2.2 gL_areAlike_X3_log rfl x1 x2 (by decide +kernel) ⟨by show _ ≤ 8; omega, by show _ ≤ 190; omega⟩) hS (fun _ h => Or.inr h) rfl rfl rfl hl.1 (Nat.le_of_ble_eq_true rfl) dL_areAlike_136 ⟨Nat.le_of_ble_eq_true rfl, Nat.le_of_ble_eq_true rfl⟩ (fun H1 locs1 hV hF hS1 => ?_)
    replace hW := Wo_frame hW (fun q h1 h2 => hF.2 q h1 (hap q h2))
    clear hS
    have hS := hS1
    clear hS1 hF
    refine lv_icmp_ne (tgt := 146) hx hb dL_areAlike_139 (by decide) (fun c139 => absurd rfl c139) (fun c139 => ?_)
    clear c139
    refine lv_iconst (v := nI 1) hx hb dL_areAlike_142 (by decide) ?_
    refine lv_goto (tgt := 147) hx hb dL_areAlike_143 (by decide) ?_
    refine lv_istore_n (lv' := [(2, .int (nI 1)), (0, .ref x), (1, .ref y), (3, .int (nI k))]) hx hb dL_areAlike_147 rfl hl (by decide) rfl (fun ls hl => ?_)
    refine lv_iinc (k := 3) (v := nI (k + 1)) (lv' := [(3, .int (nI (k + 1))), (2, .int (nI 1)), (0, .ref x), (1, .ref y)]) hx hb dL_areAlike_148 hl rfl (by rw [show Int32.ofInt 1 = nI 1 from by decide, nI_add]) (by decide) rfl (fun ls hl => ?_)
    refine lv_goto (tgt := 98) hx hb dL_areAlike_151 (by decide) ?_
    exact ih (k + 1) _ _ _ (by omega) hW hV hS (lv_sub hl [2, 3, 1, 0] rfl)
set_option maxHeartbeats 4000000 in
set_option maxRecDepth 100000 in
theorem ctL_areAlike {l : Launch} {D : va_G} {T : Nat → ClassId} {x y n t : Nat} {w : Nat → Int32} {P Q : Nat → Nat → Int32} {kp : Nat → Bool} (hap : ∀ q, Rg x q → ¬ Rg y q) (hl40 : lgM w ≤ 40) :
    Ct l yL_areAlike wsL_areAlike { frames := 8, cells := 0, slots := 0, locals := 190 } 0 0 D T (fun q => Rg x q ∨ Rg y q) [.ref x, .ref y] (fun H => Wo D T x t (n, w, P, Q, kp) H ∧ Wo D T y t (n, w, P, Q, kp) H) (some (.int (bI true))) (fun H => Wo D T x t (n, w, P, Q, kp) H ∧ Wo D T y t (n, w, P, Q, kp) H) := by
  refine Ct.ofW (cc := cL_areAlike) (maxL := 5) (ret := (some .boolean)) (by decide) rfl (Nat.le_of_ble_eq_true rfl) ?_
  intro p e s m args below meth c ls R Qq hR hQ C0 hr hlk hname hWV hl
  obtain ⟨hW, hV⟩ := hWV
  have hS : va_S (fun q => Rg x q ∨ Rg y q) s.heap s.heap [] := va_S.rf
  have hl : lv_has ls 5 [(0, .ref x), (1, .ref y)] := hl
  have hx := C0.1.1
  have hb := C0.1.2.1
  subst hR
  refine lv_iconst (v := nI 1) hx hb dL_areAlike_0 (by decide) ?_
  refine lv_istore_n (lv' := [(2, .int (nI 1)), (0, .ref x), (1, .ref y)]) hx hb dL_areAlike_1 rfl hl (by decide) rfl (fun ls hl => ?_)
  refine lv_iconst (v := nI 0) hx hb dL_areAlike_2 (by decide) ?_
  refine lv_istore_n (lv' := [(3, .int (nI 0)), (2, .int (nI 1)), (0, .ref x), (1, .ref y)]) hx hb dL_areAlike_3 rfl hl (by decide) rfl (fun ls hl => ?_)
  refine aa_1 C0 rfl hap (fun H1 locs1 ls1 hW1 hV1 hS1 hl1 => ?_) 12 0 _ _ _ rfl hW hV hS (lv_sub hl [2, 3, 1, 0] rfl)
  refine lv_iconst (v := nI 0) hx hb dL_areAlike_39 (by decide) ?_
  refine lv_istore_n (lv' := [(3, .int (nI 0)), (0, .ref x), (1, .ref y), (2, .int (nI 1))]) hx hb dL_areAlike_40 rfl hl1 (by decide) rfl (fun ls2 hl2 => ?_)
  refine aa_3 C0 rfl hap (fun H3 locs3 ls3 hW3 hV3 hS3 hl3 => ?_) 8 0 _ _ _ rfl hW1 hV1 hS1 (lv_sub hl2 [1, 2, 3, 0] rfl)
  refine lv_iconst (v := nI 0) hx hb dL_areAlike_96 (by decide) ?_
  refine lv_istore_n (lv' := [(3, .int (nI 0)), (0, .ref x), (1, .ref y), (2, .int (nI 1))]) hx hb dL_areAlike_97 rfl hl3 (by decide) rfl (fun ls4 hl4 => ?_)
  refine aa_4 C0 rfl hap hl40 (fun H5 locs5 ls5 hW5 hV5 hS5 hl5 => ?_) (lgM w) 0 _ _ _ (Nat.zero_add _) hW3 hV3 hS3 (lv_sub hl4 [1, 2, 3, 0] rfl)
  refine lv_iload_n hx hb dL_areAlike_154 rfl (lv_at hl5 2 rfl) ?_
  refine mr_top (y := bI true) (by decide) ?_
  exact mr_zret (b := true) C0 hr hlk hQ hS5 rfl ⟨hW5, hV5⟩ (Nat.le_refl _) (Nat.le_refl _) dL_areAlike_155
