/-! part 76: change (laid by wip/p23/lay11.py) -/
def prS (S : abS) (r : Int32 × Option (Nat → Int32)) : Int32 × abS := (r.1, nxS S r.2)
noncomputable def chK (t : Nat) (S : abS) (v0 more : Int32) : Nat → Int32 × abS
  | 0 => prS S (cOpen S.2.1 (nI (lowN ((v0) >>> ((nI 5) &&& 31)) 6)) (nI (1 + lowN more 9)))
  | 1 => prS S (cOpen S.2.1 (nI (lowN ((v0) >>> ((nI 5) &&& 31)) 6)) (nI (1 + lowN more 9)))
  | 2 => prS S (cOpen S.2.1 (nI (lowN ((v0) >>> ((nI 5) &&& 31)) 6)) (nI (1 + lowN more 9)))
  | 3 => prS S (cClose S.2.1 (nI (lowN ((v0) >>> ((nI 5) &&& 31)) 6)))
  | 4 => prS S (cSetW S.2.1 (nI (lowN ((v0) >>> ((nI 5) &&& 31)) 6)) (nI (1 + lowN more 9)))
  | 10 => prS S (cEdge S.2.1 (nI (lowN ((v0) >>> ((nI 5) &&& 31)) 6)) (nI (lowN ((v0) >>> ((nI 9) &&& 31)) 6)) (if lowN more 5 = 0 then nI 0 else nI 1))
  | 11 => prS S (cEdge S.2.1 (nI (lowN ((v0) >>> ((nI 5) &&& 31)) 6)) (nI (lowN ((v0) >>> ((nI 9) &&& 31)) 6)) (if lowN more 5 = 0 then nI 0 else nI 1))
  | 12 => prS S (cEdge S.2.1 (nI (lowN ((v0) >>> ((nI 5) &&& 31)) 6)) (nI (lowN ((v0) >>> ((nI 9) &&& 31)) 6)) (if lowN more 5 = 0 then nI 0 else nI 1))
  | 13 => prS S (cCommit S.2.1)
  | 14 => if lowN more 3 = 0 then prS S (cRevert S.2.1 (nI (lowN ((more) >>> ((nI 2) &&& 31)) 4))) else prS S (cCommit S.2.1)
  | 15 => prS S (cSend S.2.1)
  | 16 => prS S (cSend S.2.1)
  | 17 => prS S (cSome S.2.1 t (nI (lowN more 150)))
  | 18 => if lowN more 2 = 0 then cKeep S (nI (lowN ((more) >>> ((nI 1) &&& 31)) 2)) else prS S (cBack S (nI (lowN ((more) >>> ((nI 1) &&& 31)) 2)))
  | 19 => cUndo S
  | _ => prS S (cPush S.2.1 (nI (lowN ((v0) >>> ((nI 5) &&& 31)) 6)) (nI (1 + lowN more 99)))
/-- what a change answers, and the state behind it -/
noncomputable def chR (t : Nat) (S : abS) (v0 more : Int32) : Int32 × abS := chK t S v0 more (lowN v0 20)
set_option maxHeartbeats 4000000 in
set_option maxRecDepth 100000 in
theorem chg_0 {l : Launch} {D : va_G} {T : Nat → ClassId} {x n t : Nat} {w : Nat → Int32} {P Q : Nat → Nat → Int32} {kp : Nat → Bool} {v0 more : Int32} (ht : t < 1000) (hk : lowN v0 20 = 0) :
    Ct l yL_change wsL_change { frames := 8, cells := 0, slots := 0, locals := 190 } 0 0 D T (Rg x) [.ref x, .int v0, .int more] (fun H => Wo D T x t (n, w, P, Q, kp) H) (some (.int (chR t (n, w, P, Q, kp) v0 more).1)) (fun H => Wo D T x (t + 1) (chR t (n, w, P, Q, kp) v0 more).2 H) := by
  refine Ct.ofW (cc := cL_change) (maxL := 5) (ret := (some .int)) (by decide) rfl (Nat.le_of_ble_eq_true rfl) ?_
  intro p e s m args below meth c ls R Qq hR hQ C0 hr hlk hname hW hl
  have hS : va_S (Rg x) s.heap s.heap [] := va_S.rf
  have hl : lv_has ls 5 [(0, .ref x), (1, .int v0), (2, .int more)] := hl
  have hx := C0.1.1
  have hb := C0.1.2.1
  subst hR
  have eK : chR t (n, w, P, Q, kp) v0 more = prS (n, w, P, Q, kp) (cOpen w (nI (lowN ((v0) >>> ((nI 5) &&& 31)) 6)) (nI (1 + lowN more 9))) := by
    unfold chR
    rw [hk]
    rfl
  rw [eK] at hQ
  refine lv_iload_n hx hb dL_change_0 rfl (lv_at hl 1 rfl) ?_
  refine lv_iconst (v := nI 5) hx hb dL_change_1 (by decide) ?_
  refine lv_ishr hx hb dL_change_2 ?_
  refine lv_bipush (v := nI 6) hx hb dL_change_3 (by decide) ?_
  refine mo_callS (A1 := fun _ => False) (As := [.int ((v0) >>> ((nI 5) &&& 31)), .int (nI 6)]) (rest := []) (st1 := [.int (nI (lowN ((v0) >>> ((nI 5) &&& 31)) 6))]) (Q := fun _ => True) C0 (ctL_low (v := (v0) >>> ((nI 5) &&& 31)) (n := 6) (by decide) (by decide) (Pp := fun _ => True)) (va_cwS 2 C0.1.2.2.2.2 gL_change_L_low rfl rfl rfl (by decide +kernel) ⟨Nat.le_of_ble_eq_true rfl, Nat.le_of_ble_eq_true rfl⟩) trivial hS (fun _ h => absurd h id) rfl rfl rfl hl.1 (Nat.le_of_ble_eq_true rfl) dL_change_5 ⟨Nat.le_of_ble_eq_true rfl, Nat.le_of_ble_eq_true rfl⟩ (fun H1 locs1 hT hF hS1 => ?_)
  replace hW := Wo_frame hW (fun q h1 h2 => hF.2 q h1 id)
  clear hS hT
  have hS := hS1
  clear hS1 hF
  refine lv_istore_n (lv' := [(3, .int (nI (lowN ((v0) >>> ((nI 5) &&& 31)) 6))), (0, .ref x), (1, .int (v0)), (2, .int (more))]) hx hb dL_change_8 rfl hl (by decide) rfl (fun ls hl => ?_)
  refine lv_iload_n hx hb dL_change_9 rfl (lv_at hl 2 rfl) ?_
  refine lv_bipush (v := nI 9) hx hb dL_change_10 (by decide) ?_
  refine lv_ishr hx hb dL_change_12 ?_
  refine lv_bipush (v := nI 6) hx hb dL_change_13 (by decide) ?_
  refine mo_callS (A1 := fun _ => False) (As := [.int ((v0) >>> ((nI 9) &&& 31)), .int (nI 6)]) (rest := []) (st1 := [.int (nI (lowN ((v0) >>> ((nI 9) &&& 31)) 6))]) (Q := fun _ => True) C0 (ctL_low (v := (v0) >>> ((nI 9) &&& 31)) (n := 6) (by decide) (by decide) (Pp := fun _ => True)) (va_cwS 2 C0.1.2.2.2.2 gL_change_L_low rfl rfl rfl (by decide +kernel) ⟨Nat.le_of_ble_eq_true rfl, Nat.le_of_ble_eq_true rfl⟩) trivial hS (fun _ h => absurd h id) rfl rfl rfl hl.1 (Nat.le_of_ble_eq_true rfl) dL_change_15 ⟨Nat.le_of_ble_eq_true rfl, Nat.le_of_ble_eq_true rfl⟩ (fun H1 locs1 hT hF hS1 => ?_)
  replace hW := Wo_frame hW (fun q h1 h2 => hF.2 q h1 id)
  clear hS hT
  have hS := hS1
  clear hS1 hF
  refine lv_istore (lv' := [(4, .int (nI (lowN ((v0) >>> ((nI 9) &&& 31)) 6))), (3, .int (nI (lowN ((v0) >>> ((nI 5) &&& 31)) 6))), (0, .ref x), (1, .int (v0)), (2, .int (more))]) hx hb dL_change_18 hl (by decide) rfl (fun ls hl => ?_)
  refine lv_iload_n hx hb dL_change_20 rfl (lv_at hl 3 rfl) ?_
  refine lv_bipush (v := nI 20) hx hb dL_change_21 (by decide) ?_
  refine mo_callS (A1 := fun _ => False) (As := [.int (v0), .int (nI 20)]) (rest := []) (st1 := [.int (nI (lowN v0 20))]) (Q := fun _ => True) C0 (ctL_low (v := v0) (n := 20) (by decide) (by decide) (Pp := fun _ => True)) (va_cwS 2 C0.1.2.2.2.2 gL_change_L_low rfl rfl rfl (by decide +kernel) ⟨Nat.le_of_ble_eq_true rfl, Nat.le_of_ble_eq_true rfl⟩) trivial hS (fun _ h => absurd h id) rfl rfl rfl hl.1 (Nat.le_of_ble_eq_true rfl) dL_change_23 ⟨Nat.le_of_ble_eq_true rfl, Nat.le_of_ble_eq_true rfl⟩ (fun H1 locs1 hT hF hS1 => ?_)
  replace hW := Wo_frame hW (fun q h1 h2 => hF.2 q h1 id)
  clear hS hT
  have hS := hS1
  clear hS1 hF
  refine mr_top (y := nI 0) (congrArg nI hk) ?_
  refine lv_tableIn (off := 90) (tgt := 116) hx hb dL_change_26 (by decide) (by decide) (by decide) (by decide) ?_
  refine lv_aload_n hx hb dL_change_116 rfl (lv_at hl 2 rfl) ?_
  refine lv_iload_n hx hb dL_change_117 rfl (lv_at hl 1 rfl) ?_
  refine lv_iconst (v := nI 1) hx hb dL_change_118 (by decide) ?_
  refine lv_iload_n hx hb dL_change_119 rfl (lv_at hl 4 rfl) ?_
  refine lv_bipush (v := nI 9) hx hb dL_change_120 (by decide) ?_
  refine mo_callS (A1 := fun _ => False) (As := [.int (more), .int (nI 9)]) (rest := [.int (nI 1), .int (nI (lowN ((v0) >>> ((nI 5) &&& 31)) 6)), .ref x]) (st1 := [.int (nI (lowN more 9)), .int (nI 1), .int (nI (lowN ((v0) >>> ((nI 5) &&& 31)) 6)), .ref x]) (Q := fun _ => True) C0 (ctL_low (v := more) (n := 9) (by decide) (by decide) (Pp := fun _ => True)) (va_cwS 2 C0.1.2.2.2.2 gL_change_L_low rfl rfl rfl (by decide +kernel) ⟨Nat.le_of_ble_eq_true rfl, Nat.le_of_ble_eq_true rfl⟩) trivial hS (fun _ h => absurd h id) rfl rfl rfl hl.1 (Nat.le_of_ble_eq_true rfl) dL_change_122 ⟨Nat.le_of_ble_eq_true rfl, Nat.le_of_ble_eq_true rfl⟩ (fun H1 locs1 hT hF hS1 => ?_)
  replace hW := Wo_frame hW (fun q h1 h2 => hF.2 q h1 id)
  clear hS hT
  have hS := hS1
  clear hS1 hF
  refine mr_iaddN (z := 1 + (lowN more 9)) C0 (rfl) dL_change_125 ?_
  refine mo_call (x := x) (As := [.int (nI (lowN ((v0) >>> ((nI 5) &&& 31)) 6)), .int (nI (1 + (lowN more 9)))]) (rest := []) (st1 := [.int ((prS (n, w, P, Q, kp) (cOpen w (nI (lowN ((v0) >>> ((nI 5) &&& 31)) 6)) (nI (1 + lowN more 9)))).1)]) C0 (op_open _ _) hW (fun rm x1 x2 x3 x4 => cwV 2 C0.1.2.2.2.2 gL_change_X3_open rfl x1 x2 (by decide +kernel) ⟨by show _ ≤ 8; omega, by show _ ≤ 190; omega⟩) hS (fun _ h => h) rfl rfl rfl hl.1 (Nat.le_of_ble_eq_true rfl) dL_change_126 ⟨Nat.le_of_ble_eq_true rfl, Nat.le_of_ble_eq_true rfl⟩ (fun H1 locs1 hW hF hS1 => ?_)
  clear hS
  have hS := hS1
  clear hS1 hF
  exact mr_iret (v := (prS (n, w, P, Q, kp) (cOpen w (nI (lowN ((v0) >>> ((nI 5) &&& 31)) 6)) (nI (1 + lowN more 9)))).1) C0 hr hlk hQ hS rfl hW (Nat.le_refl _) (Nat.le_refl _) dL_change_129
set_option maxHeartbeats 4000000 in
set_option maxRecDepth 100000 in
theorem chg_1 {l : Launch} {D : va_G} {T : Nat → ClassId} {x n t : Nat} {w : Nat → Int32} {P Q : Nat → Nat → Int32} {kp : Nat → Bool} {v0 more : Int32} (ht : t < 1000) (hk : lowN v0 20 = 1) :
    Ct l yL_change wsL_change { frames := 8, cells := 0, slots := 0, locals := 190 } 0 0 D T (Rg x) [.ref x, .int v0, .int more] (fun H => Wo D T x t (n, w, P, Q, kp) H) (some (.int (chR t (n, w, P, Q, kp) v0 more).1)) (fun H => Wo D T x (t + 1) (chR t (n, w, P, Q, kp) v0 more).2 H) := by
  refine Ct.ofW (cc := cL_change) (maxL := 5) (ret := (some .int)) (by decide) rfl (Nat.le_of_ble_eq_true rfl) ?_
  intro p e s m args below meth c ls R Qq hR hQ C0 hr hlk hname hW hl
  have hS : va_S (Rg x) s.heap s.heap [] := va_S.rf
  have hl : lv_has ls 5 [(0, .ref x), (1, .int v0), (2, .int more)] := hl
  have hx := C0.1.1
  have hb := C0.1.2.1
  subst hR
  have eK : chR t (n, w, P, Q, kp) v0 more = prS (n, w, P, Q, kp) (cOpen w (nI (lowN ((v0) >>> ((nI 5) &&& 31)) 6)) (nI (1 + lowN more 9))) := by
    unfold chR
    rw [hk]
    rfl
  rw [eK] at hQ
  refine lv_iload_n hx hb dL_change_0 rfl (lv_at hl 1 rfl) ?_
  refine lv_iconst (v := nI 5) hx hb dL_change_1 (by decide) ?_
  refine lv_ishr hx hb dL_change_2 ?_
  refine lv_bipush (v := nI 6) hx hb dL_change_3 (by decide) ?_
  refine mo_callS (A1 := fun _ => False) (As := [.int ((v0) >>> ((nI 5) &&& 31)), .int (nI 6)]) (rest := []) (st1 := [.int (nI (lowN ((v0) >>> ((nI 5) &&& 31)) 6))]) (Q := fun _ => True) C0 (ctL_low (v := (v0) >>> ((nI 5) &&& 31)) (n := 6) (by decide) (by decide) (Pp := fun _ => True)) (va_cwS 2 C0.1.2.2.2.2 gL_change_L_low rfl rfl rfl (by decide +kernel) ⟨Nat.le_of_ble_eq_true rfl, Nat.le_of_ble_eq_true rfl⟩) trivial hS (fun _ h => absurd h id) rfl rfl rfl hl.1 (Nat.le_of_ble_eq_true rfl) dL_change_5 ⟨Nat.le_of_ble_eq_true rfl, Nat.le_of_ble_eq_true rfl⟩ (fun H1 locs1 hT hF hS1 => ?_)
  replace hW := Wo_frame hW (fun q h1 h2 => hF.2 q h1 id)
  clear hS hT
  have hS := hS1
  clear hS1 hF
  refine lv_istore_n (lv' := [(3, .int (nI (lowN ((v0) >>> ((nI 5) &&& 31)) 6))), (0, .ref x), (1, .int (v0)), (2, .int (more))]) hx hb dL_change_8 rfl hl (by decide) rfl (fun ls hl => ?_)
  refine lv_iload_n hx hb dL_change_9 rfl (lv_at hl 2 rfl) ?_
  refine lv_bipush (v := nI 9) hx hb dL_change_10 (by decide) ?_
  refine lv_ishr hx hb dL_change_12 ?_
  refine lv_bipush (v := nI 6) hx hb dL_change_13 (by decide) ?_
  refine mo_callS (A1 := fun _ => False) (As := [.int ((v0) >>> ((nI 9) &&& 31)), .int (nI 6)]) (rest := []) (st1 := [.int (nI (lowN ((v0) >>> ((nI 9) &&& 31)) 6))]) (Q := fun _ => True) C0 (ctL_low (v := (v0) >>> ((nI 9) &&& 31)) (n := 6) (by decide) (by decide) (Pp := fun _ => True)) (va_cwS 2 C0.1.2.2.2.2 gL_change_L_low rfl rfl rfl (by decide +kernel) ⟨Nat.le_of_ble_eq_true rfl, Nat.le_of_ble_eq_true rfl⟩) trivial hS (fun _ h => absurd h id) rfl rfl rfl hl.1 (Nat.le_of_ble_eq_true rfl) dL_change_15 ⟨Nat.le_of_ble_eq_true rfl, Nat.le_of_ble_eq_true rfl⟩ (fun H1 locs1 hT hF hS1 => ?_)
  replace hW := Wo_frame hW (fun q h1 h2 => hF.2 q h1 id)
  clear hS hT
  have hS := hS1
  clear hS1 hF
  refine lv_istore (lv' := [(4, .int (nI (lowN ((v0) >>> ((nI 9) &&& 31)) 6))), (3, .int (nI (lowN ((v0) >>> ((nI 5) &&& 31)) 6))), (0, .ref x), (1, .int (v0)), (2, .int (more))]) hx hb dL_change_18 hl (by decide) rfl (fun ls hl => ?_)
  refine lv_iload_n hx hb dL_change_20 rfl (lv_at hl 3 rfl) ?_
  refine lv_bipush (v := nI 20) hx hb dL_change_21 (by decide) ?_
  refine mo_callS (A1 := fun _ => False) (As := [.int (v0), .int (nI 20)]) (rest := []) (st1 := [.int (nI (lowN v0 20))]) (Q := fun _ => True) C0 (ctL_low (v := v0) (n := 20) (by decide) (by decide) (Pp := fun _ => True)) (va_cwS 2 C0.1.2.2.2.2 gL_change_L_low rfl rfl rfl (by decide +kernel) ⟨Nat.le_of_ble_eq_true rfl, Nat.le_of_ble_eq_true rfl⟩) trivial hS (fun _ h => absurd h id) rfl rfl rfl hl.1 (Nat.le_of_ble_eq_true rfl) dL_change_23 ⟨Nat.le_of_ble_eq_true rfl, Nat.le_of_ble_eq_true rfl⟩ (fun H1 locs1 hT hF hS1 => ?_)
  replace hW := Wo_frame hW (fun q h1 h2 => hF.2 q h1 id)
  clear hS hT
  have hS := hS1
  clear hS1 hF
  refine mr_top (y := nI 1) (congrArg nI hk) ?_
  refine lv_tableIn (off := 90) (tgt := 116) hx hb dL_change_26 (by decide) (by decide) (by decide) (by decide) ?_
  refine lv_aload_n hx hb dL_change_116 rfl (lv_at hl 2 rfl) ?_
  refine lv_iload_n hx hb dL_change_117 rfl (lv_at hl 1 rfl) ?_
  refine lv_iconst (v := nI 1) hx hb dL_change_118 (by decide) ?_
  refine lv_iload_n hx hb dL_change_119 rfl (lv_at hl 4 rfl) ?_
  refine lv_bipush (v := nI 9) hx hb dL_change_120 (by decide) ?_
  refine mo_callS (A1 := fun _ => False) (As := [.int (more), .int (nI 9)]) (rest := [.int (nI 1), .int (nI (lowN ((v0) >>> ((nI 5) &&& 31)) 6)), .ref x]) (st1 := [.int (nI (lowN more 9)), .int (nI 1), .int (nI (lowN ((v0) >>> ((nI 5) &&& 31)) 6)), .ref x]) (Q := fun _ => True) C0 (ctL_low (v := more) (n := 9) (by decide) (by decide) (Pp := fun _ => True)) (va_cwS 2 C0.1.2.2.2.2 gL_change_L_low rfl rfl rfl (by decide +kernel) ⟨Nat.le_of_ble_eq_true rfl, Nat.le_of_ble_eq_true rfl⟩) trivial hS (fun _ h => absurd h id) rfl rfl rfl hl.1 (Nat.le_of_ble_eq_true rfl) dL_change_122 ⟨Nat.le_of_ble_eq_true rfl, Nat.le_of_ble_eq_true rfl⟩ (fun H1 locs1 hT hF hS1 => ?_)
  replace hW := Wo_frame hW (fun q h1 h2 => hF.2 q h1 id)
  clear hS hT
  have hS := hS1
  clear hS1 hF
  refine mr_iaddN (z := 1 + (lowN more 9)) C0 (rfl) dL_change_125 ?_
  refine mo_call (x := x) (As := [.int (nI (lowN ((v0) >>> ((nI 5) &&& 31)) 6)), .int (nI (1 + (lowN more 9)))]) (rest := []) (st1 := [.int ((prS (n, w, P, Q, kp) (cOpen w (nI (lowN ((v0) >>> ((nI 5) &&& 31)) 6)) (nI (1 + lowN more 9)))).1)]) C0 (op_open _ _) hW (fun rm x1 x2 x3 x4 => cwV 2 C0.1.2.2.2.2 gL_change_X3_open rfl x1 x2 (by decide +kernel) ⟨by show _ ≤ 8; omega, by show _ ≤ 190; omega⟩) hS (fun _ h => h) rfl rfl rfl hl.1 (Nat.le_of_ble_eq_true rfl) dL_change_126 ⟨Nat.le_of_ble_eq_true rfl, Nat.le_of_ble_eq_true rfl⟩ (fun H1 locs1 hW hF hS1 => ?_)
  clear hS
  have hS := hS1
  clear hS1 hF
  exact mr_iret (v := (prS (n, w, P, Q, kp) (cOpen w (nI (lowN ((v0) >>> ((nI 5) &&& 31)) 6)) (nI (1 + lowN more 9)))).1) C0 hr hlk hQ hS rfl hW (Nat.le_refl _) (Nat.le_refl _) dL_change_129
set_option maxHeartbeats 4000000 in
set_option maxRecDepth 100000 in
theorem chg_2 {l : Launch} {D : va_G} {T : Nat → ClassId} {x n t : Nat} {w : Nat → Int32} {P Q : Nat → Nat → Int32} {kp : Nat → Bool} {v0 more : Int32} (ht : t < 1000) (hk : lowN v0 20 = 2) :
    Ct l yL_change wsL_change { frames := 8, cells := 0, slots := 0, locals := 190 } 0 0 D T (Rg x) [.ref x, .int v0, .int more] (fun H => Wo D T x t (n, w, P, Q, kp) H) (some (.int (chR t (n, w, P, Q, kp) v0 more).1)) (fun H => Wo D T x (t + 1) (chR t (n, w, P, Q, kp) v0 more).2 H) := by
  refine Ct.ofW (cc := cL_change) (maxL := 5) (ret := (some .int)) (by decide) rfl (Nat.le_of_ble_eq_true rfl) ?_
  intro p e s m args below meth c ls R Qq hR hQ C0 hr hlk hname hW hl
  have hS : va_S (Rg x) s.heap s.heap [] := va_S.rf
  have hl : lv_has ls 5 [(0, .ref x), (1, .int v0), (2, .int more)] := hl
  have hx := C0.1.1
  have hb := C0.1.2.1
  subst hR
  have eK : chR t (n, w, P, Q, kp) v0 more = prS (n, w, P, Q, kp) (cOpen w (nI (lowN ((v0) >>> ((nI 5) &&& 31)) 6)) (nI (1 + lowN more 9))) := by
    unfold chR
    rw [hk]
    rfl
  rw [eK] at hQ
  refine lv_iload_n hx hb dL_change_0 rfl (lv_at hl 1 rfl) ?_
  refine lv_iconst (v := nI 5) hx hb dL_change_1 (by decide) ?_
  refine lv_ishr hx hb dL_change_2 ?_
  refine lv_bipush (v := nI 6) hx hb dL_change_3 (by decide) ?_
  refine mo_callS (A1 := fun _ => False) (As := [.int ((v0) >>> ((nI 5) &&& 31)), .int (nI 6)]) (rest := []) (st1 := [.int (nI (lowN ((v0) >>> ((nI 5) &&& 31)) 6))]) (Q := fun _ => True) C0 (ctL_low (v := (v0) >>> ((nI 5) &&& 31)) (n := 6) (by decide) (by decide) (Pp := fun _ => True)) (va_cwS 2 C0.1.2.2.2.2 gL_change_L_low rfl rfl rfl (by decide +kernel) ⟨Nat.le_of_ble_eq_true rfl, Nat.le_of_ble_eq_true rfl⟩) trivial hS (fun _ h => absurd h id) rfl rfl rfl hl.1 (Nat.le_of_ble_eq_true rfl) dL_change_5 ⟨Nat.le_of_ble_eq_true rfl, Nat.le_of_ble_eq_true rfl⟩ (fun H1 locs1 hT hF hS1 => ?_)
  replace hW := Wo_frame hW (fun q h1 h2 => hF.2 q h1 id)
  clear hS hT
  have hS := hS1
  clear hS1 hF
  refine lv_istore_n (lv' := [(3, .int (nI (lowN ((v0) >>> ((nI 5) &&& 31)) 6))), (0, .ref x), (1, .int (v0)), (2, .int (more))]) hx hb dL_change_8 rfl hl (by decide) rfl (fun ls hl => ?_)
  refine lv_iload_n hx hb dL_change_9 rfl (lv_at hl 2 rfl) ?_
  refine lv_bipush (v := nI 9) hx hb dL_change_10 (by decide) ?_
  refine lv_ishr hx hb dL_change_12 ?_
  refine lv_bipush (v := nI 6) hx hb dL_change_13 (by decide) ?_
  refine mo_callS (A1 := fun _ => False) (As := [.int ((v0) >>> ((nI 9) &&& 31)), .int (nI 6)]) (rest := []) (st1 := [.int (nI (lowN ((v0) >>> ((nI 9) &&& 31)) 6))]) (Q := fun _ => True) C0 (ctL_low (v := (v0) >>> ((nI 9) &&& 31)) (n := 6) (by decide) (by decide) (Pp := fun _ => True)) (va_cwS 2 C0.1.2.2.2.2 gL_change_L_low rfl rfl rfl (by decide +kernel) ⟨Nat.le_of_ble_eq_true rfl, Nat.le_of_ble_eq_true rfl⟩) trivial hS (fun _ h => absurd h id) rfl rfl rfl hl.1 (Nat.le_of_ble_eq_true rfl) dL_change_15 ⟨Nat.le_of_ble_eq_true rfl, Nat.le_of_ble_eq_true rfl⟩ (fun H1 locs1 hT hF hS1 => ?_)
  replace hW := Wo_frame hW (fun q h1 h2 => hF.2 q h1 id)
  clear hS hT
  have hS := hS1
  clear hS1 hF
  refine lv_istore (lv' := [(4, .int (nI (lowN ((v0) >>> ((nI 9) &&& 31)) 6))), (3, .int (nI (lowN ((v0) >>> ((nI 5) &&& 31)) 6))), (0, .ref x), (1, .int (v0)), (2, .int (more))]) hx hb dL_change_18 hl (by decide) rfl (fun ls hl => ?_)
  refine lv_iload_n hx hb dL_change_20 rfl (lv_at hl 3 rfl) ?_
  refine lv_bipush (v := nI 20) hx hb dL_change_21 (by decide) ?_
  refine mo_callS (A1 := fun _ => False) (As := [.int (v0), .int (nI 20)]) (rest := []) (st1 := [.int (nI (lowN v0 20))]) (Q := fun _ => True) C0 (ctL_low (v := v0) (n := 20) (by decide) (by decide) (Pp := fun _ => True)) (va_cwS 2 C0.1.2.2.2.2 gL_change_L_low rfl rfl rfl (by decide +kernel) ⟨Nat.le_of_ble_eq_true rfl, Nat.le_of_ble_eq_true rfl⟩) trivial hS (fun _ h => absurd h id) rfl rfl rfl hl.1 (Nat.le_of_ble_eq_true rfl) dL_change_23 ⟨Nat.le_of_ble_eq_true rfl, Nat.le_of_ble_eq_true rfl⟩ (fun H1 locs1 hT hF hS1 => ?_)
  replace hW := Wo_frame hW (fun q h1 h2 => hF.2 q h1 id)
  clear hS hT
  have hS := hS1
  clear hS1 hF
  refine mr_top (y := nI 2) (congrArg nI hk) ?_
  refine lv_tableIn (off := 90) (tgt := 116) hx hb dL_change_26 (by decide) (by decide) (by decide) (by decide) ?_
  refine lv_aload_n hx hb dL_change_116 rfl (lv_at hl 2 rfl) ?_
  refine lv_iload_n hx hb dL_change_117 rfl (lv_at hl 1 rfl) ?_
  refine lv_iconst (v := nI 1) hx hb dL_change_118 (by decide) ?_
  refine lv_iload_n hx hb dL_change_119 rfl (lv_at hl 4 rfl) ?_
  refine lv_bipush (v := nI 9) hx hb dL_change_120 (by decide) ?_
  refine mo_callS (A1 := fun _ => False) (As := [.int (more), .int (nI 9)]) (rest := [.int (nI 1), .int (nI (lowN ((v0) >>> ((nI 5) &&& 31)) 6)), .ref x]) (st1 := [.int (nI (lowN more 9)), .int (nI 1), .int (nI (lowN ((v0) >>> ((nI 5) &&& 31)) 6)), .ref x]) (Q := fun _ => True) C0 (ctL_low (v := more) (n := 9) (by decide) (by decide) (Pp := fun _ => True)) (va_cwS 2 C0.1.2.2.2.2 gL_change_L_low rfl rfl rfl (by decide +kernel) ⟨Nat.le_of_ble_eq_true rfl, Nat.le_of_ble_eq_true rfl⟩) trivial hS (fun _ h => absurd h id) rfl rfl rfl hl.1 (Nat.le_of_ble_eq_true rfl) dL_change_122 ⟨Nat.le_of_ble_eq_true rfl, Nat.le_of_ble_eq_true rfl⟩ (fun H1 locs1 hT hF hS1 => ?_)
  replace hW := Wo_frame hW (fun q h1 h2 => hF.2 q h1 id)
  clear hS hT
  have hS := hS1
  clear hS1 hF
  refine mr_iaddN (z := 1 + (lowN more 9)) C0 (rfl) dL_change_125 ?_
  refine mo_call (x := x) (As := [.int (nI (lowN ((v0) >>> ((nI 5) &&& 31)) 6)), .int (nI (1 + (lowN more 9)))]) (rest := []) (st1 := [.int ((prS (n, w, P, Q, kp) (cOpen w (nI (lowN ((v0) >>> ((nI 5) &&& 31)) 6)) (nI (1 + lowN more 9)))).1)]) C0 (op_open _ _) hW (fun rm x1 x2 x3 x4 => cwV 2 C0.1.2.2.2.2 gL_change_X3_open rfl x1 x2 (by decide +kernel) ⟨by show _ ≤ 8; omega, by show _ ≤ 190; omega⟩) hS (fun _ h => h) rfl rfl rfl hl.1 (Nat.le_of_ble_eq_true rfl) dL_change_126 ⟨Nat.le_of_ble_eq_true rfl, Nat.le_of_ble_eq_true rfl⟩ (fun H1 locs1 hW hF hS1 => ?_)
  clear hS
  have hS := hS1
  clear hS1 hF
  exact mr_iret (v := (prS (n, w, P, Q, kp) (cOpen w (nI (lowN ((v0) >>> ((nI 5) &&& 31)) 6)) (nI (1 + lowN more 9)))).1) C0 hr hlk hQ hS rfl hW (Nat.le_refl _) (Nat.le_refl _) dL_change_129
set_option maxHeartbeats 4000000 in
set_option maxRecDepth 100000 in
theorem chg_3 {l : Launch} {D : va_G} {T : Nat → ClassId} {x n t : Nat} {w : Nat → Int32} {P Q : Nat → Nat → Int32} {kp : Nat → Bool} {v0 more : Int32} (ht : t < 1000) (hk : lowN v0 20 = 3) :
    Ct l yL_change wsL_change { frames := 8, cells := 0, slots := 0, locals := 190 } 0 0 D T (Rg x) [.ref x, .int v0, .int more] (fun H => Wo D T x t (n, w, P, Q, kp) H) (some (.int (chR t (n, w, P, Q, kp) v0 more).1)) (fun H => Wo D T x (t + 1) (chR t (n, w, P, Q, kp) v0 more).2 H) := by
  refine Ct.ofW (cc := cL_change) (maxL := 5) (ret := (some .int)) (by decide) rfl (Nat.le_of_ble_eq_true rfl) ?_
  intro p e s m args below meth c ls R Qq hR hQ C0 hr hlk hname hW hl
  have hS : va_S (Rg x) s.heap s.heap [] := va_S.rf
  have hl : lv_has ls 5 [(0, .ref x), (1, .int v0), (2, .int more)] := hl
  have hx := C0.1.1
  have hb := C0.1.2.1
  subst hR
  have eK : chR t (n, w, P, Q, kp) v0 more = prS (n, w, P, Q, kp) (cClose w (nI (lowN ((v0) >>> ((nI 5) &&& 31)) 6))) := by
    unfold chR
    rw [hk]
    rfl
  rw [eK] at hQ
  refine lv_iload_n hx hb dL_change_0 rfl (lv_at hl 1 rfl) ?_
  refine lv_iconst (v := nI 5) hx hb dL_change_1 (by decide) ?_
  refine lv_ishr hx hb dL_change_2 ?_
  refine lv_bipush (v := nI 6) hx hb dL_change_3 (by decide) ?_
  refine mo_callS (A1 := fun _ => False) (As := [.int ((v0) >>> ((nI 5) &&& 31)), .int (nI 6)]) (rest := []) (st1 := [.int (nI (lowN ((v0) >>> ((nI 5) &&& 31)) 6))]) (Q := fun _ => True) C0 (ctL_low (v := (v0) >>> ((nI 5) &&& 31)) (n := 6) (by decide) (by decide) (Pp := fun _ => True)) (va_cwS 2 C0.1.2.2.2.2 gL_change_L_low rfl rfl rfl (by decide +kernel) ⟨Nat.le_of_ble_eq_true rfl, Nat.le_of_ble_eq_true rfl⟩) trivial hS (fun _ h => absurd h id) rfl rfl rfl hl.1 (Nat.le_of_ble_eq_true rfl) dL_change_5 ⟨Nat.le_of_ble_eq_true rfl, Nat.le_of_ble_eq_true rfl⟩ (fun H1 locs1 hT hF hS1 => ?_)
  replace hW := Wo_frame hW (fun q h1 h2 => hF.2 q h1 id)
  clear hS hT
  have hS := hS1
  clear hS1 hF
  refine lv_istore_n (lv' := [(3, .int (nI (lowN ((v0) >>> ((nI 5) &&& 31)) 6))), (0, .ref x), (1, .int (v0)), (2, .int (more))]) hx hb dL_change_8 rfl hl (by decide) rfl (fun ls hl => ?_)
  refine lv_iload_n hx hb dL_change_9 rfl (lv_at hl 2 rfl) ?_
  refine lv_bipush (v := nI 9) hx hb dL_change_10 (by decide) ?_
  refine lv_ishr hx hb dL_change_12 ?_
  refine lv_bipush (v := nI 6) hx hb dL_change_13 (by decide) ?_
  refine mo_callS (A1 := fun _ => False) (As := [.int ((v0) >>> ((nI 9) &&& 31)), .int (nI 6)]) (rest := []) (st1 := [.int (nI (lowN ((v0) >>> ((nI 9) &&& 31)) 6))]) (Q := fun _ => True) C0 (ctL_low (v := (v0) >>> ((nI 9) &&& 31)) (n := 6) (by decide) (by decide) (Pp := fun _ => True)) (va_cwS 2 C0.1.2.2.2.2 gL_change_L_low rfl rfl rfl (by decide +kernel) ⟨Nat.le_of_ble_eq_true rfl, Nat.le_of_ble_eq_true rfl⟩) trivial hS (fun _ h => absurd h id) rfl rfl rfl hl.1 (Nat.le_of_ble_eq_true rfl) dL_change_15 ⟨Nat.le_of_ble_eq_true rfl, Nat.le_of_ble_eq_true rfl⟩ (fun H1 locs1 hT hF hS1 => ?_)
  replace hW := Wo_frame hW (fun q h1 h2 => hF.2 q h1 id)
  clear hS hT
  have hS := hS1
  clear hS1 hF
  refine lv_istore (lv' := [(4, .int (nI (lowN ((v0) >>> ((nI 9) &&& 31)) 6))), (3, .int (nI (lowN ((v0) >>> ((nI 5) &&& 31)) 6))), (0, .ref x), (1, .int (v0)), (2, .int (more))]) hx hb dL_change_18 hl (by decide) rfl (fun ls hl => ?_)
  refine lv_iload_n hx hb dL_change_20 rfl (lv_at hl 3 rfl) ?_
  refine lv_bipush (v := nI 20) hx hb dL_change_21 (by decide) ?_
  refine mo_callS (A1 := fun _ => False) (As := [.int (v0), .int (nI 20)]) (rest := []) (st1 := [.int (nI (lowN v0 20))]) (Q := fun _ => True) C0 (ctL_low (v := v0) (n := 20) (by decide) (by decide) (Pp := fun _ => True)) (va_cwS 2 C0.1.2.2.2.2 gL_change_L_low rfl rfl rfl (by decide +kernel) ⟨Nat.le_of_ble_eq_true rfl, Nat.le_of_ble_eq_true rfl⟩) trivial hS (fun _ h => absurd h id) rfl rfl rfl hl.1 (Nat.le_of_ble_eq_true rfl) dL_change_23 ⟨Nat.le_of_ble_eq_true rfl, Nat.le_of_ble_eq_true rfl⟩ (fun H1 locs1 hT hF hS1 => ?_)
  replace hW := Wo_frame hW (fun q h1 h2 => hF.2 q h1 id)
  clear hS hT
  have hS := hS1
  clear hS1 hF
  refine mr_top (y := nI 3) (congrArg nI hk) ?_
  refine lv_tableIn (off := 104) (tgt := 130) hx hb dL_change_26 (by decide) (by decide) (by decide) (by decide) ?_
  refine lv_aload_n hx hb dL_change_130 rfl (lv_at hl 2 rfl) ?_
  refine lv_iload_n hx hb dL_change_131 rfl (lv_at hl 1 rfl) ?_
  refine mo_call (x := x) (As := [.int (nI (lowN ((v0) >>> ((nI 5) &&& 31)) 6))]) (rest := []) (st1 := [.int ((prS (n, w, P, Q, kp) (cClose w (nI (lowN ((v0) >>> ((nI 5) &&& 31)) 6)))).1)]) C0 (op_close _) hW (fun rm x1 x2 x3 x4 => cwV 1 C0.1.2.2.2.2 gL_change_X3_close rfl x1 x2 (by decide +kernel) ⟨by show _ ≤ 8; omega, by show _ ≤ 190; omega⟩) hS (fun _ h => h) rfl rfl rfl hl.1 (Nat.le_of_ble_eq_true rfl) dL_change_132 ⟨Nat.le_of_ble_eq_true rfl, Nat.le_of_ble_eq_true rfl⟩ (fun H1 locs1 hW hF hS1 => ?_)
  clear hS
  have hS := hS1
  clear hS1 hF
  exact mr_iret (v := (prS (n, w, P, Q, kp) (cClose w (nI (lowN ((v0) >>> ((nI 5) &&& 31)) 6)))).1) C0 hr hlk hQ hS rfl hW (Nat.le_refl _) (Nat.le_refl _) dL_change_135
set_option maxHeartbeats 4000000 in
set_option maxRecDepth 100000 in
theorem chg_4 {l : Launch} {D : va_G} {T : Nat → ClassId} {x n t : Nat} {w : Nat → Int32} {P Q : Nat → Nat → Int32} {kp : Nat → Bool} {v0 more : Int32} (ht : t < 1000) (hk : lowN v0 20 = 4) :
    Ct l yL_change wsL_change { frames := 8, cells := 0, slots := 0, locals := 190 } 0 0 D T (Rg x) [.ref x, .int v0, .int more] (fun H => Wo D T x t (n, w, P, Q, kp) H) (some (.int (chR t (n, w, P, Q, kp) v0 more).1)) (fun H => Wo D T x (t + 1) (chR t (n, w, P, Q, kp) v0 more).2 H) := by
  refine Ct.ofW (cc := cL_change) (maxL := 5) (ret := (some .int)) (by decide) rfl (Nat.le_of_ble_eq_true rfl) ?_
  intro p e s m args below meth c ls R Qq hR hQ C0 hr hlk hname hW hl
  have hS : va_S (Rg x) s.heap s.heap [] := va_S.rf
  have hl : lv_has ls 5 [(0, .ref x), (1, .int v0), (2, .int more)] := hl
  have hx := C0.1.1
  have hb := C0.1.2.1
  subst hR
  have eK : chR t (n, w, P, Q, kp) v0 more = prS (n, w, P, Q, kp) (cSetW w (nI (lowN ((v0) >>> ((nI 5) &&& 31)) 6)) (nI (1 + lowN more 9))) := by
    unfold chR
    rw [hk]
    rfl
  rw [eK] at hQ
  refine lv_iload_n hx hb dL_change_0 rfl (lv_at hl 1 rfl) ?_
  refine lv_iconst (v := nI 5) hx hb dL_change_1 (by decide) ?_
  refine lv_ishr hx hb dL_change_2 ?_
  refine lv_bipush (v := nI 6) hx hb dL_change_3 (by decide) ?_
  refine mo_callS (A1 := fun _ => False) (As := [.int ((v0) >>> ((nI 5) &&& 31)), .int (nI 6)]) (rest := []) (st1 := [.int (nI (lowN ((v0) >>> ((nI 5) &&& 31)) 6))]) (Q := fun _ => True) C0 (ctL_low (v := (v0) >>> ((nI 5) &&& 31)) (n := 6) (by decide) (by decide) (Pp := fun _ => True)) (va_cwS 2 C0.1.2.2.2.2 gL_change_L_low rfl rfl rfl (by decide +kernel) ⟨Nat.le_of_ble_eq_true rfl, Nat.le_of_ble_eq_true rfl⟩) trivial hS (fun _ h => absurd h id) rfl rfl rfl hl.1 (Nat.le_of_ble_eq_true rfl) dL_change_5 ⟨Nat.le_of_ble_eq_true rfl, Nat.le_of_ble_eq_true rfl⟩ (fun H1 locs1 hT hF hS1 => ?_)
  replace hW := Wo_frame hW (fun q h1 h2 => hF.2 q h1 id)
  clear hS hT
  have hS := hS1
  clear hS1 hF
  refine lv_istore_n (lv' := [(3, .int (nI (lowN ((v0) >>> ((nI 5) &&& 31)) 6))), (0, .ref x), (1, .int (v0)), (2, .int (more))]) hx hb dL_change_8 rfl hl (by decide) rfl (fun ls hl => ?_)
  refine lv_iload_n hx hb dL_change_9 rfl (lv_at hl 2 rfl) ?_
  refine lv_bipush (v := nI 9) hx hb dL_change_10 (by decide) ?_
  refine lv_ishr hx hb dL_change_12 ?_
  refine lv_bipush (v := nI 6) hx hb dL_change_13 (by decide) ?_
  refine mo_callS (A1 := fun _ => False) (As := [.int ((v0) >>> ((nI 9) &&& 31)), .int (nI 6)]) (rest := []) (st1 := [.int (nI (lowN ((v0) >>> ((nI 9) &&& 31)) 6))]) (Q := fun _ => True) C0 (ctL_low (v := (v0) >>> ((nI 9) &&& 31)) (n := 6) (by decide) (by decide) (Pp := fun _ => True)) (va_cwS 2 C0.1.2.2.2.2 gL_change_L_low rfl rfl rfl (by decide +kernel) ⟨Nat.le_of_ble_eq_true rfl, Nat.le_of_ble_eq_true rfl⟩) trivial hS (fun _ h => absurd h id) rfl rfl rfl hl.1 (Nat.le_of_ble_eq_true rfl) dL_change_15 ⟨Nat.le_of_ble_eq_true rfl, Nat.le_of_ble_eq_true rfl⟩ (fun H1 locs1 hT hF hS1 => ?_)
  replace hW := Wo_frame hW (fun q h1 h2 => hF.2 q h1 id)
  clear hS hT
  have hS := hS1
  clear hS1 hF
  refine lv_istore (lv' := [(4, .int (nI (lowN ((v0) >>> ((nI 9) &&& 31)) 6))), (3, .int (nI (lowN ((v0) >>> ((nI 5) &&& 31)) 6))), (0, .ref x), (1, .int (v0)), (2, .int (more))]) hx hb dL_change_18 hl (by decide) rfl (fun ls hl => ?_)
  refine lv_iload_n hx hb dL_change_20 rfl (lv_at hl 3 rfl) ?_
  refine lv_bipush (v := nI 20) hx hb dL_change_21 (by decide) ?_
  refine mo_callS (A1 := fun _ => False) (As := [.int (v0), .int (nI 20)]) (rest := []) (st1 := [.int (nI (lowN v0 20))]) (Q := fun _ => True) C0 (ctL_low (v := v0) (n := 20) (by decide) (by decide) (Pp := fun _ => True)) (va_cwS 2 C0.1.2.2.2.2 gL_change_L_low rfl rfl rfl (by decide +kernel) ⟨Nat.le_of_ble_eq_true rfl, Nat.le_of_ble_eq_true rfl⟩) trivial hS (fun _ h => absurd h id) rfl rfl rfl hl.1 (Nat.le_of_ble_eq_true rfl) dL_change_23 ⟨Nat.le_of_ble_eq_true rfl, Nat.le_of_ble_eq_true rfl⟩ (fun H1 locs1 hT hF hS1 => ?_)
  replace hW := Wo_frame hW (fun q h1 h2 => hF.2 q h1 id)
  clear hS hT
  have hS := hS1
  clear hS1 hF
  refine mr_top (y := nI 4) (congrArg nI hk) ?_
  refine lv_tableIn (off := 110) (tgt := 136) hx hb dL_change_26 (by decide) (by decide) (by decide) (by decide) ?_
  refine lv_aload_n hx hb dL_change_136 rfl (lv_at hl 2 rfl) ?_
  refine lv_iload_n hx hb dL_change_137 rfl (lv_at hl 1 rfl) ?_
  refine lv_iconst (v := nI 1) hx hb dL_change_138 (by decide) ?_
  refine lv_iload_n hx hb dL_change_139 rfl (lv_at hl 4 rfl) ?_
  refine lv_bipush (v := nI 9) hx hb dL_change_140 (by decide) ?_
  refine mo_callS (A1 := fun _ => False) (As := [.int (more), .int (nI 9)]) (rest := [.int (nI 1), .int (nI (lowN ((v0) >>> ((nI 5) &&& 31)) 6)), .ref x]) (st1 := [.int (nI (lowN more 9)), .int (nI 1), .int (nI (lowN ((v0) >>> ((nI 5) &&& 31)) 6)), .ref x]) (Q := fun _ => True) C0 (ctL_low (v := more) (n := 9) (by decide) (by decide) (Pp := fun _ => True)) (va_cwS 2 C0.1.2.2.2.2 gL_change_L_low rfl rfl rfl (by decide +kernel) ⟨Nat.le_of_ble_eq_true rfl, Nat.le_of_ble_eq_true rfl⟩) trivial hS (fun _ h => absurd h id) rfl rfl rfl hl.1 (Nat.le_of_ble_eq_true rfl) dL_change_142 ⟨Nat.le_of_ble_eq_true rfl, Nat.le_of_ble_eq_true rfl⟩ (fun H1 locs1 hT hF hS1 => ?_)
  replace hW := Wo_frame hW (fun q h1 h2 => hF.2 q h1 id)
  clear hS hT
  have hS := hS1
  clear hS1 hF
  refine mr_iaddN (z := 1 + (lowN more 9)) C0 (rfl) dL_change_145 ?_
  refine mo_call (x := x) (As := [.int (nI (lowN ((v0) >>> ((nI 5) &&& 31)) 6)), .int (nI (1 + (lowN more 9)))]) (rest := []) (st1 := [.int ((prS (n, w, P, Q, kp) (cSetW w (nI (lowN ((v0) >>> ((nI 5) &&& 31)) 6)) (nI (1 + lowN more 9)))).1)]) C0 (op_setWeight _ _) hW (fun rm x1 x2 x3 x4 => cwV 2 C0.1.2.2.2.2 gL_change_X3_setWeight rfl x1 x2 (by decide +kernel) ⟨by show _ ≤ 8; omega, by show _ ≤ 190; omega⟩) hS (fun _ h => h) rfl rfl rfl hl.1 (Nat.le_of_ble_eq_true rfl) dL_change_146 ⟨Nat.le_of_ble_eq_true rfl, Nat.le_of_ble_eq_true rfl⟩ (fun H1 locs1 hW hF hS1 => ?_)
  clear hS
  have hS := hS1
  clear hS1 hF
  exact mr_iret (v := (prS (n, w, P, Q, kp) (cSetW w (nI (lowN ((v0) >>> ((nI 5) &&& 31)) 6)) (nI (1 + lowN more 9)))).1) C0 hr hlk hQ hS rfl hW (Nat.le_refl _) (Nat.le_refl _) dL_change_149
set_option maxHeartbeats 4000000 in
set_option maxRecDepth 100000 in
theorem chg_5 {l : Launch} {D : va_G} {T : Nat → ClassId} {x n t : Nat} {w : Nat → Int32} {P Q : Nat → Nat → Int32} {kp : Nat → Bool} {v0 more : Int32} (ht : t < 1000) (hk : lowN v0 20 = 5) :
    Ct l yL_change wsL_change { frames := 8, cells := 0, slots := 0, locals := 190 } 0 0 D T (Rg x) [.ref x, .int v0, .int more] (fun H => Wo D T x t (n, w, P, Q, kp) H) (some (.int (chR t (n, w, P, Q, kp) v0 more).1)) (fun H => Wo D T x (t + 1) (chR t (n, w, P, Q, kp) v0 more).2 H) := by
  refine Ct.ofW (cc := cL_change) (maxL := 5) (ret := (some .int)) (by decide) rfl (Nat.le_of_ble_eq_true rfl) ?_
  intro p e s m args below meth c ls R Qq hR hQ C0 hr hlk hname hW hl
  have hS : va_S (Rg x) s.heap s.heap [] := va_S.rf
  have hl : lv_has ls 5 [(0, .ref x), (1, .int v0), (2, .int more)] := hl
  have hx := C0.1.1
  have hb := C0.1.2.1
  subst hR
  have eK : chR t (n, w, P, Q, kp) v0 more = prS (n, w, P, Q, kp) (cPush w (nI (lowN ((v0) >>> ((nI 5) &&& 31)) 6)) (nI (1 + lowN more 99))) := by
    unfold chR
    rw [hk]
    rfl
  rw [eK] at hQ
  refine lv_iload_n hx hb dL_change_0 rfl (lv_at hl 1 rfl) ?_
  refine lv_iconst (v := nI 5) hx hb dL_change_1 (by decide) ?_
  refine lv_ishr hx hb dL_change_2 ?_
  refine lv_bipush (v := nI 6) hx hb dL_change_3 (by decide) ?_
  refine mo_callS (A1 := fun _ => False) (As := [.int ((v0) >>> ((nI 5) &&& 31)), .int (nI 6)]) (rest := []) (st1 := [.int (nI (lowN ((v0) >>> ((nI 5) &&& 31)) 6))]) (Q := fun _ => True) C0 (ctL_low (v := (v0) >>> ((nI 5) &&& 31)) (n := 6) (by decide) (by decide) (Pp := fun _ => True)) (va_cwS 2 C0.1.2.2.2.2 gL_change_L_low rfl rfl rfl (by decide +kernel) ⟨Nat.le_of_ble_eq_true rfl, Nat.le_of_ble_eq_true rfl⟩) trivial hS (fun _ h => absurd h id) rfl rfl rfl hl.1 (Nat.le_of_ble_eq_true rfl) dL_change_5 ⟨Nat.le_of_ble_eq_true rfl, Nat.le_of_ble_eq_true rfl⟩ (fun H1 locs1 hT hF hS1 => ?_)
  replace hW := Wo_frame hW (fun q h1 h2 => hF.2 q h1 id)
  clear hS hT
  have hS := hS1
  clear hS1 hF
  refine lv_istore_n (lv' := [(3, .int (nI (lowN ((v0) >>> ((nI 5) &&& 31)) 6))), (0, .ref x), (1, .int (v0)), (2, .int (more))]) hx hb dL_change_8 rfl hl (by decide) rfl (fun ls hl => ?_)
  refine lv_iload_n hx hb dL_change_9 rfl (lv_at hl 2 rfl) ?_
  refine lv_bipush (v := nI 9) hx hb dL_change_10 (by decide) ?_
  refine lv_ishr hx hb dL_change_12 ?_
  refine lv_bipush (v := nI 6) hx hb dL_change_13 (by decide) ?_
  refine mo_callS (A1 := fun _ => False) (As := [.int ((v0) >>> ((nI 9) &&& 31)), .int (nI 6)]) (rest := []) (st1 := [.int (nI (lowN ((v0) >>> ((nI 9) &&& 31)) 6))]) (Q := fun _ => True) C0 (ctL_low (v := (v0) >>> ((nI 9) &&& 31)) (n := 6) (by decide) (by decide) (Pp := fun _ => True)) (va_cwS 2 C0.1.2.2.2.2 gL_change_L_low rfl rfl rfl (by decide +kernel) ⟨Nat.le_of_ble_eq_true rfl, Nat.le_of_ble_eq_true rfl⟩) trivial hS (fun _ h => absurd h id) rfl rfl rfl hl.1 (Nat.le_of_ble_eq_true rfl) dL_change_15 ⟨Nat.le_of_ble_eq_true rfl, Nat.le_of_ble_eq_true rfl⟩ (fun H1 locs1 hT hF hS1 => ?_)
  replace hW := Wo_frame hW (fun q h1 h2 => hF.2 q h1 id)
  clear hS hT
  have hS := hS1
  clear hS1 hF
  refine lv_istore (lv' := [(4, .int (nI (lowN ((v0) >>> ((nI 9) &&& 31)) 6))), (3, .int (nI (lowN ((v0) >>> ((nI 5) &&& 31)) 6))), (0, .ref x), (1, .int (v0)), (2, .int (more))]) hx hb dL_change_18 hl (by decide) rfl (fun ls hl => ?_)
  refine lv_iload_n hx hb dL_change_20 rfl (lv_at hl 3 rfl) ?_
  refine lv_bipush (v := nI 20) hx hb dL_change_21 (by decide) ?_
  refine mo_callS (A1 := fun _ => False) (As := [.int (v0), .int (nI 20)]) (rest := []) (st1 := [.int (nI (lowN v0 20))]) (Q := fun _ => True) C0 (ctL_low (v := v0) (n := 20) (by decide) (by decide) (Pp := fun _ => True)) (va_cwS 2 C0.1.2.2.2.2 gL_change_L_low rfl rfl rfl (by decide +kernel) ⟨Nat.le_of_ble_eq_true rfl, Nat.le_of_ble_eq_true rfl⟩) trivial hS (fun _ h => absurd h id) rfl rfl rfl hl.1 (Nat.le_of_ble_eq_true rfl) dL_change_23 ⟨Nat.le_of_ble_eq_true rfl, Nat.le_of_ble_eq_true rfl⟩ (fun H1 locs1 hT hF hS1 => ?_)
  replace hW := Wo_frame hW (fun q h1 h2 => hF.2 q h1 id)
  clear hS hT
  have hS := hS1
  clear hS1 hF
  refine mr_top (y := nI 5) (congrArg nI hk) ?_
  refine lv_tableIn (off := 124) (tgt := 150) hx hb dL_change_26 (by decide) (by decide) (by decide) (by decide) ?_
  refine lv_aload_n hx hb dL_change_150 rfl (lv_at hl 2 rfl) ?_
  refine lv_iload_n hx hb dL_change_151 rfl (lv_at hl 1 rfl) ?_
  refine lv_iconst (v := nI 1) hx hb dL_change_152 (by decide) ?_
  refine lv_iload_n hx hb dL_change_153 rfl (lv_at hl 4 rfl) ?_
  refine lv_bipush (v := nI 99) hx hb dL_change_154 (by decide) ?_
  refine mo_callS (A1 := fun _ => False) (As := [.int (more), .int (nI 99)]) (rest := [.int (nI 1), .int (nI (lowN ((v0) >>> ((nI 5) &&& 31)) 6)), .ref x]) (st1 := [.int (nI (lowN more 99)), .int (nI 1), .int (nI (lowN ((v0) >>> ((nI 5) &&& 31)) 6)), .ref x]) (Q := fun _ => True) C0 (ctL_low (v := more) (n := 99) (by decide) (by decide) (Pp := fun _ => True)) (va_cwS 2 C0.1.2.2.2.2 gL_change_L_low rfl rfl rfl (by decide +kernel) ⟨Nat.le_of_ble_eq_true rfl, Nat.le_of_ble_eq_true rfl⟩) trivial hS (fun _ h => absurd h id) rfl rfl rfl hl.1 (Nat.le_of_ble_eq_true rfl) dL_change_156 ⟨Nat.le_of_ble_eq_true rfl, Nat.le_of_ble_eq_true rfl⟩ (fun H1 locs1 hT hF hS1 => ?_)
  replace hW := Wo_frame hW (fun q h1 h2 => hF.2 q h1 id)
  clear hS hT
  have hS := hS1
  clear hS1 hF
  refine mr_iaddN (z := 1 + (lowN more 99)) C0 (rfl) dL_change_159 ?_
  refine mo_call (x := x) (As := [.int (nI (lowN ((v0) >>> ((nI 5) &&& 31)) 6)), .int (nI (1 + (lowN more 99)))]) (rest := []) (st1 := [.int ((prS (n, w, P, Q, kp) (cPush w (nI (lowN ((v0) >>> ((nI 5) &&& 31)) 6)) (nI (1 + lowN more 99)))).1)]) C0 (op_push _ _ ht) hW (fun rm x1 x2 x3 x4 => cwV 2 C0.1.2.2.2.2 gL_change_X3_push rfl x1 x2 (by decide +kernel) ⟨by show _ ≤ 8; omega, by show _ ≤ 190; omega⟩) hS (fun _ h => h) rfl rfl rfl hl.1 (Nat.le_of_ble_eq_true rfl) dL_change_160 ⟨Nat.le_of_ble_eq_true rfl, Nat.le_of_ble_eq_true rfl⟩ (fun H1 locs1 hW hF hS1 => ?_)
  clear hS
  have hS := hS1
  clear hS1 hF
  exact mr_iret (v := (prS (n, w, P, Q, kp) (cPush w (nI (lowN ((v0) >>> ((nI 5) &&& 31)) 6)) (nI (1 + lowN more 99)))).1) C0 hr hlk hQ hS rfl hW (Nat.le_refl _) (Nat.le_refl _) dL_change_163
set_option maxHeartbeats 4000000 in
set_option maxRecDepth 100000 in
theorem chg_6 {l : Launch} {D : va_G} {T : Nat → ClassId} {x n t : Nat} {w : Nat → Int32} {P Q : Nat → Nat → Int32} {kp : Nat → Bool} {v0 more : Int32} (ht : t < 1000) (hk : lowN v0 20 = 6) :
    Ct l yL_change wsL_change { frames := 8, cells := 0, slots := 0, locals := 190 } 0 0 D T (Rg x) [.ref x, .int v0, .int more] (fun H => Wo D T x t (n, w, P, Q, kp) H) (some (.int (chR t (n, w, P, Q, kp) v0 more).1)) (fun H => Wo D T x (t + 1) (chR t (n, w, P, Q, kp) v0 more).2 H) := by
  refine Ct.ofW (cc := cL_change) (maxL := 5) (ret := (some .int)) (by decide) rfl (Nat.le_of_ble_eq_true rfl) ?_
  intro p e s m args below meth c ls R Qq hR hQ C0 hr hlk hname hW hl
  have hS : va_S (Rg x) s.heap s.heap [] := va_S.rf
  have hl : lv_has ls 5 [(0, .ref x), (1, .int v0), (2, .int more)] := hl
  have hx := C0.1.1
  have hb := C0.1.2.1
  subst hR
  have eK : chR t (n, w, P, Q, kp) v0 more = prS (n, w, P, Q, kp) (cPush w (nI (lowN ((v0) >>> ((nI 5) &&& 31)) 6)) (nI (1 + lowN more 99))) := by
    unfold chR
    rw [hk]
    rfl
  rw [eK] at hQ
  refine lv_iload_n hx hb dL_change_0 rfl (lv_at hl 1 rfl) ?_
  refine lv_iconst (v := nI 5) hx hb dL_change_1 (by decide) ?_
  refine lv_ishr hx hb dL_change_2 ?_
  refine lv_bipush (v := nI 6) hx hb dL_change_3 (by decide) ?_
  refine mo_callS (A1 := fun _ => False) (As := [.int ((v0) >>> ((nI 5) &&& 31)), .int (nI 6)]) (rest := []) (st1 := [.int (nI (lowN ((v0) >>> ((nI 5) &&& 31)) 6))]) (Q := fun _ => True) C0 (ctL_low (v := (v0) >>> ((nI 5) &&& 31)) (n := 6) (by decide) (by decide) (Pp := fun _ => True)) (va_cwS 2 C0.1.2.2.2.2 gL_change_L_low rfl rfl rfl (by decide +kernel) ⟨Nat.le_of_ble_eq_true rfl, Nat.le_of_ble_eq_true rfl⟩) trivial hS (fun _ h => absurd h id) rfl rfl rfl hl.1 (Nat.le_of_ble_eq_true rfl) dL_change_5 ⟨Nat.le_of_ble_eq_true rfl, Nat.le_of_ble_eq_true rfl⟩ (fun H1 locs1 hT hF hS1 => ?_)
  replace hW := Wo_frame hW (fun q h1 h2 => hF.2 q h1 id)
  clear hS hT
  have hS := hS1
  clear hS1 hF
  refine lv_istore_n (lv' := [(3, .int (nI (lowN ((v0) >>> ((nI 5) &&& 31)) 6))), (0, .ref x), (1, .int (v0)), (2, .int (more))]) hx hb dL_change_8 rfl hl (by decide) rfl (fun ls hl => ?_)
  refine lv_iload_n hx hb dL_change_9 rfl (lv_at hl 2 rfl) ?_
  refine lv_bipush (v := nI 9) hx hb dL_change_10 (by decide) ?_
  refine lv_ishr hx hb dL_change_12 ?_
  refine lv_bipush (v := nI 6) hx hb dL_change_13 (by decide) ?_
  refine mo_callS (A1 := fun _ => False) (As := [.int ((v0) >>> ((nI 9) &&& 31)), .int (nI 6)]) (rest := []) (st1 := [.int (nI (lowN ((v0) >>> ((nI 9) &&& 31)) 6))]) (Q := fun _ => True) C0 (ctL_low (v := (v0) >>> ((nI 9) &&& 31)) (n := 6) (by decide) (by decide) (Pp := fun _ => True)) (va_cwS 2 C0.1.2.2.2.2 gL_change_L_low rfl rfl rfl (by decide +kernel) ⟨Nat.le_of_ble_eq_true rfl, Nat.le_of_ble_eq_true rfl⟩) trivial hS (fun _ h => absurd h id) rfl rfl rfl hl.1 (Nat.le_of_ble_eq_true rfl) dL_change_15 ⟨Nat.le_of_ble_eq_true rfl, Nat.le_of_ble_eq_true rfl⟩ (fun H1 locs1 hT hF hS1 => ?_)
  replace hW := Wo_frame hW (fun q h1 h2 => hF.2 q h1 id)
  clear hS hT
  have hS := hS1
  clear hS1 hF
  refine lv_istore (lv' := [(4, .int (nI (lowN ((v0) >>> ((nI 9) &&& 31)) 6))), (3, .int (nI (lowN ((v0) >>> ((nI 5) &&& 31)) 6))), (0, .ref x), (1, .int (v0)), (2, .int (more))]) hx hb dL_change_18 hl (by decide) rfl (fun ls hl => ?_)
  refine lv_iload_n hx hb dL_change_20 rfl (lv_at hl 3 rfl) ?_
  refine lv_bipush (v := nI 20) hx hb dL_change_21 (by decide) ?_
  refine mo_callS (A1 := fun _ => False) (As := [.int (v0), .int (nI 20)]) (rest := []) (st1 := [.int (nI (lowN v0 20))]) (Q := fun _ => True) C0 (ctL_low (v := v0) (n := 20) (by decide) (by decide) (Pp := fun _ => True)) (va_cwS 2 C0.1.2.2.2.2 gL_change_L_low rfl rfl rfl (by decide +kernel) ⟨Nat.le_of_ble_eq_true rfl, Nat.le_of_ble_eq_true rfl⟩) trivial hS (fun _ h => absurd h id) rfl rfl rfl hl.1 (Nat.le_of_ble_eq_true rfl) dL_change_23 ⟨Nat.le_of_ble_eq_true rfl, Nat.le_of_ble_eq_true rfl⟩ (fun H1 locs1 hT hF hS1 => ?_)
  replace hW := Wo_frame hW (fun q h1 h2 => hF.2 q h1 id)
  clear hS hT
  have hS := hS1
  clear hS1 hF
  refine mr_top (y := nI 6) (congrArg nI hk) ?_
  refine lv_tableIn (off := 124) (tgt := 150) hx hb dL_change_26 (by decide) (by decide) (by decide) (by decide) ?_
  refine lv_aload_n hx hb dL_change_150 rfl (lv_at hl 2 rfl) ?_
  refine lv_iload_n hx hb dL_change_151 rfl (lv_at hl 1 rfl) ?_
  refine lv_iconst (v := nI 1) hx hb dL_change_152 (by decide) ?_
  refine lv_iload_n hx hb dL_change_153 rfl (lv_at hl 4 rfl) ?_
  refine lv_bipush (v := nI 99) hx hb dL_change_154 (by decide) ?_
  refine mo_callS (A1 := fun _ => False) (As := [.int (more), .int (nI 99)]) (rest := [.int (nI 1), .int (nI (lowN ((v0) >>> ((nI 5) &&& 31)) 6)), .ref x]) (st1 := [.int (nI (lowN more 99)), .int (nI 1), .int (nI (lowN ((v0) >>> ((nI 5) &&& 31)) 6)), .ref x]) (Q := fun _ => True) C0 (ctL_low (v := more) (n := 99) (by decide) (by decide) (Pp := fun _ => True)) (va_cwS 2 C0.1.2.2.2.2 gL_change_L_low rfl rfl rfl (by decide +kernel) ⟨Nat.le_of_ble_eq_true rfl, Nat.le_of_ble_eq_true rfl⟩) trivial hS (fun _ h => absurd h id) rfl rfl rfl hl.1 (Nat.le_of_ble_eq_true rfl) dL_change_156 ⟨Nat.le_of_ble_eq_true rfl, Nat.le_of_ble_eq_true rfl⟩ (fun H1 locs1 hT hF hS1 => ?_)
  replace hW := Wo_frame hW (fun q h1 h2 => hF.2 q h1 id)
  clear hS hT
  have hS := hS1
  clear hS1 hF
  refine mr_iaddN (z := 1 + (lowN more 99)) C0 (rfl) dL_change_159 ?_
  refine mo_call (x := x) (As := [.int (nI (lowN ((v0) >>> ((nI 5) &&& 31)) 6)), .int (nI (1 + (lowN more 99)))]) (rest := []) (st1 := [.int ((prS (n, w, P, Q, kp) (cPush w (nI (lowN ((v0) >>> ((nI 5) &&& 31)) 6)) (nI (1 + lowN more 99)))).1)]) C0 (op_push _ _ ht) hW (fun rm x1 x2 x3 x4 => cwV 2 C0.1.2.2.2.2 gL_change_X3_push rfl x1 x2 (by decide +kernel) ⟨by show _ ≤ 8; omega, by show _ ≤ 190; omega⟩) hS (fun _ h => h) rfl rfl rfl hl.1 (Nat.le_of_ble_eq_true rfl) dL_change_160 ⟨Nat.le_of_ble_eq_true rfl, Nat.le_of_ble_eq_true rfl⟩ (fun H1 locs1 hW hF hS1 => ?_)
  clear hS
  have hS := hS1
  clear hS1 hF
  exact mr_iret (v := (prS (n, w, P, Q, kp) (cPush w (nI (lowN ((v0) >>> ((nI 5) &&& 31)) 6)) (nI (1 + lowN more 99)))).1) C0 hr hlk hQ hS rfl hW (Nat.le_refl _) (Nat.le_refl _) dL_change_163
set_option maxHeartbeats 4000000 in
set_option maxRecDepth 100000 in
theorem chg_7 {l : Launch} {D : va_G} {T : Nat → ClassId} {x n t : Nat} {w : Nat → Int32} {P Q : Nat → Nat → Int32} {kp : Nat → Bool} {v0 more : Int32} (ht : t < 1000) (hk : lowN v0 20 = 7) :
    Ct l yL_change wsL_change { frames := 8, cells := 0, slots := 0, locals := 190 } 0 0 D T (Rg x) [.ref x, .int v0, .int more] (fun H => Wo D T x t (n, w, P, Q, kp) H) (some (.int (chR t (n, w, P, Q, kp) v0 more).1)) (fun H => Wo D T x (t + 1) (chR t (n, w, P, Q, kp) v0 more).2 H) := by
  refine Ct.ofW (cc := cL_change) (maxL := 5) (ret := (some .int)) (by decide) rfl (Nat.le_of_ble_eq_true rfl) ?_
  intro p e s m args below meth c ls R Qq hR hQ C0 hr hlk hname hW hl
  have hS : va_S (Rg x) s.heap s.heap [] := va_S.rf
  have hl : lv_has ls 5 [(0, .ref x), (1, .int v0), (2, .int more)] := hl
  have hx := C0.1.1
  have hb := C0.1.2.1
  subst hR
  have eK : chR t (n, w, P, Q, kp) v0 more = prS (n, w, P, Q, kp) (cPush w (nI (lowN ((v0) >>> ((nI 5) &&& 31)) 6)) (nI (1 + lowN more 99))) := by
    unfold chR
    rw [hk]
    rfl
  rw [eK] at hQ
  refine lv_iload_n hx hb dL_change_0 rfl (lv_at hl 1 rfl) ?_
  refine lv_iconst (v := nI 5) hx hb dL_change_1 (by decide) ?_
  refine lv_ishr hx hb dL_change_2 ?_
  refine lv_bipush (v := nI 6) hx hb dL_change_3 (by decide) ?_
  refine mo_callS (A1 := fun _ => False) (As := [.int ((v0) >>> ((nI 5) &&& 31)), .int (nI 6)]) (rest := []) (st1 := [.int (nI (lowN ((v0) >>> ((nI 5) &&& 31)) 6))]) (Q := fun _ => True) C0 (ctL_low (v := (v0) >>> ((nI 5) &&& 31)) (n := 6) (by decide) (by decide) (Pp := fun _ => True)) (va_cwS 2 C0.1.2.2.2.2 gL_change_L_low rfl rfl rfl (by decide +kernel) ⟨Nat.le_of_ble_eq_true rfl, Nat.le_of_ble_eq_true rfl⟩) trivial hS (fun _ h => absurd h id) rfl rfl rfl hl.1 (Nat.le_of_ble_eq_true rfl) dL_change_5 ⟨Nat.le_of_ble_eq_true rfl, Nat.le_of_ble_eq_true rfl⟩ (fun H1 locs1 hT hF hS1 => ?_)
  replace hW := Wo_frame hW (fun q h1 h2 => hF.2 q h1 id)
  clear hS hT
  have hS := hS1
  clear hS1 hF
  refine lv_istore_n (lv' := [(3, .int (nI (lowN ((v0) >>> ((nI 5) &&& 31)) 6))), (0, .ref x), (1, .int (v0)), (2, .int (more))]) hx hb dL_change_8 rfl hl (by decide) rfl (fun ls hl => ?_)
  refine lv_iload_n hx hb dL_change_9 rfl (lv_at hl 2 rfl) ?_
  refine lv_bipush (v := nI 9) hx hb dL_change_10 (by decide) ?_
  refine lv_ishr hx hb dL_change_12 ?_
  refine lv_bipush (v := nI 6) hx hb dL_change_13 (by decide) ?_
  refine mo_callS (A1 := fun _ => False) (As := [.int ((v0) >>> ((nI 9) &&& 31)), .int (nI 6)]) (rest := []) (st1 := [.int (nI (lowN ((v0) >>> ((nI 9) &&& 31)) 6))]) (Q := fun _ => True) C0 (ctL_low (v := (v0) >>> ((nI 9) &&& 31)) (n := 6) (by decide) (by decide) (Pp := fun _ => True)) (va_cwS 2 C0.1.2.2.2.2 gL_change_L_low rfl rfl rfl (by decide +kernel) ⟨Nat.le_of_ble_eq_true rfl, Nat.le_of_ble_eq_true rfl⟩) trivial hS (fun _ h => absurd h id) rfl rfl rfl hl.1 (Nat.le_of_ble_eq_true rfl) dL_change_15 ⟨Nat.le_of_ble_eq_true rfl, Nat.le_of_ble_eq_true rfl⟩ (fun H1 locs1 hT hF hS1 => ?_)
  replace hW := Wo_frame hW (fun q h1 h2 => hF.2 q h1 id)
  clear hS hT
  have hS := hS1
  clear hS1 hF
  refine lv_istore (lv' := [(4, .int (nI (lowN ((v0) >>> ((nI 9) &&& 31)) 6))), (3, .int (nI (lowN ((v0) >>> ((nI 5) &&& 31)) 6))), (0, .ref x), (1, .int (v0)), (2, .int (more))]) hx hb dL_change_18 hl (by decide) rfl (fun ls hl => ?_)
  refine lv_iload_n hx hb dL_change_20 rfl (lv_at hl 3 rfl) ?_
  refine lv_bipush (v := nI 20) hx hb dL_change_21 (by decide) ?_
  refine mo_callS (A1 := fun _ => False) (As := [.int (v0), .int (nI 20)]) (rest := []) (st1 := [.int (nI (lowN v0 20))]) (Q := fun _ => True) C0 (ctL_low (v := v0) (n := 20) (by decide) (by decide) (Pp := fun _ => True)) (va_cwS 2 C0.1.2.2.2.2 gL_change_L_low rfl rfl rfl (by decide +kernel) ⟨Nat.le_of_ble_eq_true rfl, Nat.le_of_ble_eq_true rfl⟩) trivial hS (fun _ h => absurd h id) rfl rfl rfl hl.1 (Nat.le_of_ble_eq_true rfl) dL_change_23 ⟨Nat.le_of_ble_eq_true rfl, Nat.le_of_ble_eq_true rfl⟩ (fun H1 locs1 hT hF hS1 => ?_)
  replace hW := Wo_frame hW (fun q h1 h2 => hF.2 q h1 id)
  clear hS hT
  have hS := hS1
  clear hS1 hF
  refine mr_top (y := nI 7) (congrArg nI hk) ?_
  refine lv_tableIn (off := 124) (tgt := 150) hx hb dL_change_26 (by decide) (by decide) (by decide) (by decide) ?_
  refine lv_aload_n hx hb dL_change_150 rfl (lv_at hl 2 rfl) ?_
  refine lv_iload_n hx hb dL_change_151 rfl (lv_at hl 1 rfl) ?_
  refine lv_iconst (v := nI 1) hx hb dL_change_152 (by decide) ?_
  refine lv_iload_n hx hb dL_change_153 rfl (lv_at hl 4 rfl) ?_
  refine lv_bipush (v := nI 99) hx hb dL_change_154 (by decide) ?_
  refine mo_callS (A1 := fun _ => False) (As := [.int (more), .int (nI 99)]) (rest := [.int (nI 1), .int (nI (lowN ((v0) >>> ((nI 5) &&& 31)) 6)), .ref x]) (st1 := [.int (nI (lowN more 99)), .int (nI 1), .int (nI (lowN ((v0) >>> ((nI 5) &&& 31)) 6)), .ref x]) (Q := fun _ => True) C0 (ctL_low (v := more) (n := 99) (by decide) (by decide) (Pp := fun _ => True)) (va_cwS 2 C0.1.2.2.2.2 gL_change_L_low rfl rfl rfl (by decide +kernel) ⟨Nat.le_of_ble_eq_true rfl, Nat.le_of_ble_eq_true rfl⟩) trivial hS (fun _ h => absurd h id) rfl rfl rfl hl.1 (Nat.le_of_ble_eq_true rfl) dL_change_156 ⟨Nat.le_of_ble_eq_true rfl, Nat.le_of_ble_eq_true rfl⟩ (fun H1 locs1 hT hF hS1 => ?_)
  replace hW := Wo_frame hW (fun q h1 h2 => hF.2 q h1 id)
  clear hS hT
  have hS := hS1
  clear hS1 hF
  refine mr_iaddN (z := 1 + (lowN more 99)) C0 (rfl) dL_change_159 ?_
  refine mo_call (x := x) (As := [.int (nI (lowN ((v0) >>> ((nI 5) &&& 31)) 6)), .int (nI (1 + (lowN more 99)))]) (rest := []) (st1 := [.int ((prS (n, w, P, Q, kp) (cPush w (nI (lowN ((v0) >>> ((nI 5) &&& 31)) 6)) (nI (1 + lowN more 99)))).1)]) C0 (op_push _ _ ht) hW (fun rm x1 x2 x3 x4 => cwV 2 C0.1.2.2.2.2 gL_change_X3_push rfl x1 x2 (by decide +kernel) ⟨by show _ ≤ 8; omega, by show _ ≤ 190; omega⟩) hS (fun _ h => h) rfl rfl rfl hl.1 (Nat.le_of_ble_eq_true rfl) dL_change_160 ⟨Nat.le_of_ble_eq_true rfl, Nat.le_of_ble_eq_true rfl⟩ (fun H1 locs1 hW hF hS1 => ?_)
  clear hS
  have hS := hS1
  clear hS1 hF
  exact mr_iret (v := (prS (n, w, P, Q, kp) (cPush w (nI (lowN ((v0) >>> ((nI 5) &&& 31)) 6)) (nI (1 + lowN more 99)))).1) C0 hr hlk hQ hS rfl hW (Nat.le_refl _) (Nat.le_refl _) dL_change_163
set_option maxHeartbeats 4000000 in
set_option maxRecDepth 100000 in
theorem chg_8 {l : Launch} {D : va_G} {T : Nat → ClassId} {x n t : Nat} {w : Nat → Int32} {P Q : Nat → Nat → Int32} {kp : Nat → Bool} {v0 more : Int32} (ht : t < 1000) (hk : lowN v0 20 = 8) :
    Ct l yL_change wsL_change { frames := 8, cells := 0, slots := 0, locals := 190 } 0 0 D T (Rg x) [.ref x, .int v0, .int more] (fun H => Wo D T x t (n, w, P, Q, kp) H) (some (.int (chR t (n, w, P, Q, kp) v0 more).1)) (fun H => Wo D T x (t + 1) (chR t (n, w, P, Q, kp) v0 more).2 H) := by
  refine Ct.ofW (cc := cL_change) (maxL := 5) (ret := (some .int)) (by decide) rfl (Nat.le_of_ble_eq_true rfl) ?_
  intro p e s m args below meth c ls R Qq hR hQ C0 hr hlk hname hW hl
  have hS : va_S (Rg x) s.heap s.heap [] := va_S.rf
  have hl : lv_has ls 5 [(0, .ref x), (1, .int v0), (2, .int more)] := hl
  have hx := C0.1.1
  have hb := C0.1.2.1
  subst hR
  have eK : chR t (n, w, P, Q, kp) v0 more = prS (n, w, P, Q, kp) (cPush w (nI (lowN ((v0) >>> ((nI 5) &&& 31)) 6)) (nI (1 + lowN more 99))) := by
    unfold chR
    rw [hk]
    rfl
  rw [eK] at hQ
  refine lv_iload_n hx hb dL_change_0 rfl (lv_at hl 1 rfl) ?_
  refine lv_iconst (v := nI 5) hx hb dL_change_1 (by decide) ?_
  refine lv_ishr hx hb dL_change_2 ?_
  refine lv_bipush (v := nI 6) hx hb dL_change_3 (by decide) ?_
  refine mo_callS (A1 := fun _ => False) (As := [.int ((v0) >>> ((nI 5) &&& 31)), .int (nI 6)]) (rest := []) (st1 := [.int (nI (lowN ((v0) >>> ((nI 5) &&& 31)) 6))]) (Q := fun _ => True) C0 (ctL_low (v := (v0) >>> ((nI 5) &&& 31)) (n := 6) (by decide) (by decide) (Pp := fun _ => True)) (va_cwS 2 C0.1.2.2.2.2 gL_change_L_low rfl rfl rfl (by decide +kernel) ⟨Nat.le_of_ble_eq_true rfl, Nat.le_of_ble_eq_true rfl⟩) trivial hS (fun _ h => absurd h id) rfl rfl rfl hl.1 (Nat.le_of_ble_eq_true rfl) dL_change_5 ⟨Nat.le_of_ble_eq_true rfl, Nat.le_of_ble_eq_true rfl⟩ (fun H1 locs1 hT hF hS1 => ?_)
  replace hW := Wo_frame hW (fun q h1 h2 => hF.2 q h1 id)
  clear hS hT
  have hS := hS1
  clear hS1 hF
  refine lv_istore_n (lv' := [(3, .int (nI (lowN ((v0) >>> ((nI 5) &&& 31)) 6))), (0, .ref x), (1, .int (v0)), (2, .int (more))]) hx hb dL_change_8 rfl hl (by decide) rfl (fun ls hl => ?_)
  refine lv_iload_n hx hb dL_change_9 rfl (lv_at hl 2 rfl) ?_
  refine lv_bipush (v := nI 9) hx hb dL_change_10 (by decide) ?_
  refine lv_ishr hx hb dL_change_12 ?_
  refine lv_bipush (v := nI 6) hx hb dL_change_13 (by decide) ?_
  refine mo_callS (A1 := fun _ => False) (As := [.int ((v0) >>> ((nI 9) &&& 31)), .int (nI 6)]) (rest := []) (st1 := [.int (nI (lowN ((v0) >>> ((nI 9) &&& 31)) 6))]) (Q := fun _ => True) C0 (ctL_low (v := (v0) >>> ((nI 9) &&& 31)) (n := 6) (by decide) (by decide) (Pp := fun _ => True)) (va_cwS 2 C0.1.2.2.2.2 gL_change_L_low rfl rfl rfl (by decide +kernel) ⟨Nat.le_of_ble_eq_true rfl, Nat.le_of_ble_eq_true rfl⟩) trivial hS (fun _ h => absurd h id) rfl rfl rfl hl.1 (Nat.le_of_ble_eq_true rfl) dL_change_15 ⟨Nat.le_of_ble_eq_true rfl, Nat.le_of_ble_eq_true rfl⟩ (fun H1 locs1 hT hF hS1 => ?_)
  replace hW := Wo_frame hW (fun q h1 h2 => hF.2 q h1 id)
  clear hS hT
  have hS := hS1
  clear hS1 hF
  refine lv_istore (lv' := [(4, .int (nI (lowN ((v0) >>> ((nI 9) &&& 31)) 6))), (3, .int (nI (lowN ((v0) >>> ((nI 5) &&& 31)) 6))), (0, .ref x), (1, .int (v0)), (2, .int (more))]) hx hb dL_change_18 hl (by decide) rfl (fun ls hl => ?_)
  refine lv_iload_n hx hb dL_change_20 rfl (lv_at hl 3 rfl) ?_
  refine lv_bipush (v := nI 20) hx hb dL_change_21 (by decide) ?_
  refine mo_callS (A1 := fun _ => False) (As := [.int (v0), .int (nI 20)]) (rest := []) (st1 := [.int (nI (lowN v0 20))]) (Q := fun _ => True) C0 (ctL_low (v := v0) (n := 20) (by decide) (by decide) (Pp := fun _ => True)) (va_cwS 2 C0.1.2.2.2.2 gL_change_L_low rfl rfl rfl (by decide +kernel) ⟨Nat.le_of_ble_eq_true rfl, Nat.le_of_ble_eq_true rfl⟩) trivial hS (fun _ h => absurd h id) rfl rfl rfl hl.1 (Nat.le_of_ble_eq_true rfl) dL_change_23 ⟨Nat.le_of_ble_eq_true rfl, Nat.le_of_ble_eq_true rfl⟩ (fun H1 locs1 hT hF hS1 => ?_)
  replace hW := Wo_frame hW (fun q h1 h2 => hF.2 q h1 id)
  clear hS hT
  have hS := hS1
  clear hS1 hF
  refine mr_top (y := nI 8) (congrArg nI hk) ?_
  refine lv_tableIn (off := 124) (tgt := 150) hx hb dL_change_26 (by decide) (by decide) (by decide) (by decide) ?_
  refine lv_aload_n hx hb dL_change_150 rfl (lv_at hl 2 rfl) ?_
  refine lv_iload_n hx hb dL_change_151 rfl (lv_at hl 1 rfl) ?_
  refine lv_iconst (v := nI 1) hx hb dL_change_152 (by decide) ?_
  refine lv_iload_n hx hb dL_change_153 rfl (lv_at hl 4 rfl) ?_
  refine lv_bipush (v := nI 99) hx hb dL_change_154 (by decide) ?_
  refine mo_callS (A1 := fun _ => False) (As := [.int (more), .int (nI 99)]) (rest := [.int (nI 1), .int (nI (lowN ((v0) >>> ((nI 5) &&& 31)) 6)), .ref x]) (st1 := [.int (nI (lowN more 99)), .int (nI 1), .int (nI (lowN ((v0) >>> ((nI 5) &&& 31)) 6)), .ref x]) (Q := fun _ => True) C0 (ctL_low (v := more) (n := 99) (by decide) (by decide) (Pp := fun _ => True)) (va_cwS 2 C0.1.2.2.2.2 gL_change_L_low rfl rfl rfl (by decide +kernel) ⟨Nat.le_of_ble_eq_true rfl, Nat.le_of_ble_eq_true rfl⟩) trivial hS (fun _ h => absurd h id) rfl rfl rfl hl.1 (Nat.le_of_ble_eq_true rfl) dL_change_156 ⟨Nat.le_of_ble_eq_true rfl, Nat.le_of_ble_eq_true rfl⟩ (fun H1 locs1 hT hF hS1 => ?_)
  replace hW := Wo_frame hW (fun q h1 h2 => hF.2 q h1 id)
  clear hS hT
  have hS := hS1
  clear hS1 hF
  refine mr_iaddN (z := 1 + (lowN more 99)) C0 (rfl) dL_change_159 ?_
  refine mo_call (x := x) (As := [.int (nI (lowN ((v0) >>> ((nI 5) &&& 31)) 6)), .int (nI (1 + (lowN more 99)))]) (rest := []) (st1 := [.int ((prS (n, w, P, Q, kp) (cPush w (nI (lowN ((v0) >>> ((nI 5) &&& 31)) 6)) (nI (1 + lowN more 99)))).1)]) C0 (op_push _ _ ht) hW (fun rm x1 x2 x3 x4 => cwV 2 C0.1.2.2.2.2 gL_change_X3_push rfl x1 x2 (by decide +kernel) ⟨by show _ ≤ 8; omega, by show _ ≤ 190; omega⟩) hS (fun _ h => h) rfl rfl rfl hl.1 (Nat.le_of_ble_eq_true rfl) dL_change_160 ⟨Nat.le_of_ble_eq_true rfl, Nat.le_of_ble_eq_true rfl⟩ (fun H1 locs1 hW hF hS1 => ?_)
  clear hS
  have hS := hS1
  clear hS1 hF
  exact mr_iret (v := (prS (n, w, P, Q, kp) (cPush w (nI (lowN ((v0) >>> ((nI 5) &&& 31)) 6)) (nI (1 + lowN more 99)))).1) C0 hr hlk hQ hS rfl hW (Nat.le_refl _) (Nat.le_refl _) dL_change_163
set_option maxHeartbeats 4000000 in
set_option maxRecDepth 100000 in
theorem chg_9 {l : Launch} {D : va_G} {T : Nat → ClassId} {x n t : Nat} {w : Nat → Int32} {P Q : Nat → Nat → Int32} {kp : Nat → Bool} {v0 more : Int32} (ht : t < 1000) (hk : lowN v0 20 = 9) :
    Ct l yL_change wsL_change { frames := 8, cells := 0, slots := 0, locals := 190 } 0 0 D T (Rg x) [.ref x, .int v0, .int more] (fun H => Wo D T x t (n, w, P, Q, kp) H) (some (.int (chR t (n, w, P, Q, kp) v0 more).1)) (fun H => Wo D T x (t + 1) (chR t (n, w, P, Q, kp) v0 more).2 H) := by
  refine Ct.ofW (cc := cL_change) (maxL := 5) (ret := (some .int)) (by decide) rfl (Nat.le_of_ble_eq_true rfl) ?_
  intro p e s m args below meth c ls R Qq hR hQ C0 hr hlk hname hW hl
  have hS : va_S (Rg x) s.heap s.heap [] := va_S.rf
  have hl : lv_has ls 5 [(0, .ref x), (1, .int v0), (2, .int more)] := hl
  have hx := C0.1.1
  have hb := C0.1.2.1
  subst hR
  have eK : chR t (n, w, P, Q, kp) v0 more = prS (n, w, P, Q, kp) (cPush w (nI (lowN ((v0) >>> ((nI 5) &&& 31)) 6)) (nI (1 + lowN more 99))) := by
    unfold chR
    rw [hk]
    rfl
  rw [eK] at hQ
  refine lv_iload_n hx hb dL_change_0 rfl (lv_at hl 1 rfl) ?_
  refine lv_iconst (v := nI 5) hx hb dL_change_1 (by decide) ?_
  refine lv_ishr hx hb dL_change_2 ?_
  refine lv_bipush (v := nI 6) hx hb dL_change_3 (by decide) ?_
  refine mo_callS (A1 := fun _ => False) (As := [.int ((v0) >>> ((nI 5) &&& 31)), .int (nI 6)]) (rest := []) (st1 := [.int (nI (lowN ((v0) >>> ((nI 5) &&& 31)) 6))]) (Q := fun _ => True) C0 (ctL_low (v := (v0) >>> ((nI 5) &&& 31)) (n := 6) (by decide) (by decide) (Pp := fun _ => True)) (va_cwS 2 C0.1.2.2.2.2 gL_change_L_low rfl rfl rfl (by decide +kernel) ⟨Nat.le_of_ble_eq_true rfl, Nat.le_of_ble_eq_true rfl⟩) trivial hS (fun _ h => absurd h id) rfl rfl rfl hl.1 (Nat.le_of_ble_eq_true rfl) dL_change_5 ⟨Nat.le_of_ble_eq_true rfl, Nat.le_of_ble_eq_true rfl⟩ (fun H1 locs1 hT hF hS1 => ?_)
  replace hW := Wo_frame hW (fun q h1 h2 => hF.2 q h1 id)
  clear hS hT
  have hS := hS1
  clear hS1 hF
  refine lv_istore_n (lv' := [(3, .int (nI (lowN ((v0) >>> ((nI 5) &&& 31)) 6))), (0, .ref x), (1, .int (v0)), (2, .int (more))]) hx hb dL_change_8 rfl hl (by decide) rfl (fun ls hl => ?_)
  refine lv_iload_n hx hb dL_change_9 rfl (lv_at hl 2 rfl) ?_
  refine lv_bipush (v := nI 9) hx hb dL_change_10 (by decide) ?_
  refine lv_ishr hx hb dL_change_12 ?_
  refine lv_bipush (v := nI 6) hx hb dL_change_13 (by decide) ?_
  refine mo_callS (A1 := fun _ => False) (As := [.int ((v0) >>> ((nI 9) &&& 31)), .int (nI 6)]) (rest := []) (st1 := [.int (nI (lowN ((v0) >>> ((nI 9) &&& 31)) 6))]) (Q := fun _ => True) C0 (ctL_low (v := (v0) >>> ((nI 9) &&& 31)) (n := 6) (by decide) (by decide) (Pp := fun _ => True)) (va_cwS 2 C0.1.2.2.2.2 gL_change_L_low rfl rfl rfl (by decide +kernel) ⟨Nat.le_of_ble_eq_true rfl, Nat.le_of_ble_eq_true rfl⟩) trivial hS (fun _ h => absurd h id) rfl rfl rfl hl.1 (Nat.le_of_ble_eq_true rfl) dL_change_15 ⟨Nat.le_of_ble_eq_true rfl, Nat.le_of_ble_eq_true rfl⟩ (fun H1 locs1 hT hF hS1 => ?_)
  replace hW := Wo_frame hW (fun q h1 h2 => hF.2 q h1 id)
  clear hS hT
  have hS := hS1
  clear hS1 hF
  refine lv_istore (lv' := [(4, .int (nI (lowN ((v0) >>> ((nI 9) &&& 31)) 6))), (3, .int (nI (lowN ((v0) >>> ((nI 5) &&& 31)) 6))), (0, .ref x), (1, .int (v0)), (2, .int (more))]) hx hb dL_change_18 hl (by decide) rfl (fun ls hl => ?_)
  refine lv_iload_n hx hb dL_change_20 rfl (lv_at hl 3 rfl) ?_
  refine lv_bipush (v := nI 20) hx hb dL_change_21 (by decide) ?_
  refine mo_callS (A1 := fun _ => False) (As := [.int (v0), .int (nI 20)]) (rest := []) (st1 := [.int (nI (lowN v0 20))]) (Q := fun _ => True) C0 (ctL_low (v := v0) (n := 20) (by decide) (by decide) (Pp := fun _ => True)) (va_cwS 2 C0.1.2.2.2.2 gL_change_L_low rfl rfl rfl (by decide +kernel) ⟨Nat.le_of_ble_eq_true rfl, Nat.le_of_ble_eq_true rfl⟩) trivial hS (fun _ h => absurd h id) rfl rfl rfl hl.1 (Nat.le_of_ble_eq_true rfl) dL_change_23 ⟨Nat.le_of_ble_eq_true rfl, Nat.le_of_ble_eq_true rfl⟩ (fun H1 locs1 hT hF hS1 => ?_)
  replace hW := Wo_frame hW (fun q h1 h2 => hF.2 q h1 id)
  clear hS hT
  have hS := hS1
  clear hS1 hF
  refine mr_top (y := nI 9) (congrArg nI hk) ?_
  refine lv_tableIn (off := 124) (tgt := 150) hx hb dL_change_26 (by decide) (by decide) (by decide) (by decide) ?_
  refine lv_aload_n hx hb dL_change_150 rfl (lv_at hl 2 rfl) ?_
  refine lv_iload_n hx hb dL_change_151 rfl (lv_at hl 1 rfl) ?_
  refine lv_iconst (v := nI 1) hx hb dL_change_152 (by decide) ?_
  refine lv_iload_n hx hb dL_change_153 rfl (lv_at hl 4 rfl) ?_
  refine lv_bipush (v := nI 99) hx hb dL_change_154 (by decide) ?_
  refine mo_callS (A1 := fun _ => False) (As := [.int (more), .int (nI 99)]) (rest := [.int (nI 1), .int (nI (lowN ((v0) >>> ((nI 5) &&& 31)) 6)), .ref x]) (st1 := [.int (nI (lowN more 99)), .int (nI 1), .int (nI (lowN ((v0) >>> ((nI 5) &&& 31)) 6)), .ref x]) (Q := fun _ => True) C0 (ctL_low (v := more) (n := 99) (by decide) (by decide) (Pp := fun _ => True)) (va_cwS 2 C0.1.2.2.2.2 gL_change_L_low rfl rfl rfl (by decide +kernel) ⟨Nat.le_of_ble_eq_true rfl, Nat.le_of_ble_eq_true rfl⟩) trivial hS (fun _ h => absurd h id) rfl rfl rfl hl.1 (Nat.le_of_ble_eq_true rfl) dL_change_156 ⟨Nat.le_of_ble_eq_true rfl, Nat.le_of_ble_eq_true rfl⟩ (fun H1 locs1 hT hF hS1 => ?_)
  replace hW := Wo_frame hW (fun q h1 h2 => hF.2 q h1 id)
  clear hS hT
  have hS := hS1
  clear hS1 hF
  refine mr_iaddN (z := 1 + (lowN more 99)) C0 (rfl) dL_change_159 ?_
  refine mo_call (x := x) (As := [.int (nI (lowN ((v0) >>> ((nI 5) &&& 31)) 6)), .int (nI (1 + (lowN more 99)))]) (rest := []) (st1 := [.int ((prS (n, w, P, Q, kp) (cPush w (nI (lowN ((v0) >>> ((nI 5) &&& 31)) 6)) (nI (1 + lowN more 99)))).1)]) C0 (op_push _ _ ht) hW (fun rm x1 x2 x3 x4 => cwV 2 C0.1.2.2.2.2 gL_change_X3_push rfl x1 x2 (by decide +kernel) ⟨by show _ ≤ 8; omega, by show _ ≤ 190; omega⟩) hS (fun _ h => h) rfl rfl rfl hl.1 (Nat.le_of_ble_eq_true rfl) dL_change_160 ⟨Nat.le_of_ble_eq_true rfl, Nat.le_of_ble_eq_true rfl⟩ (fun H1 locs1 hW hF hS1 => ?_)
  clear hS
  have hS := hS1
  clear hS1 hF
  exact mr_iret (v := (prS (n, w, P, Q, kp) (cPush w (nI (lowN ((v0) >>> ((nI 5) &&& 31)) 6)) (nI (1 + lowN more 99)))).1) C0 hr hlk hQ hS rfl hW (Nat.le_refl _) (Nat.le_refl _) dL_change_163
set_option maxHeartbeats 4000000 in
set_option maxRecDepth 100000 in
theorem chg_10a {l : Launch} {D : va_G} {T : Nat → ClassId} {x n t : Nat} {w : Nat → Int32} {P Q : Nat → Nat → Int32} {kp : Nat → Bool} {v0 more : Int32} (ht : t < 1000) (hk : lowN v0 20 = 10) (hc : lowN more 5 = 0) :
    Ct l yL_change wsL_change { frames := 8, cells := 0, slots := 0, locals := 190 } 0 0 D T (Rg x) [.ref x, .int v0, .int more] (fun H => Wo D T x t (n, w, P, Q, kp) H) (some (.int (chR t (n, w, P, Q, kp) v0 more).1)) (fun H => Wo D T x (t + 1) (chR t (n, w, P, Q, kp) v0 more).2 H) := by
  refine Ct.ofW (cc := cL_change) (maxL := 5) (ret := (some .int)) (by decide) rfl (Nat.le_of_ble_eq_true rfl) ?_
  intro p e s m args below meth c ls R Qq hR hQ C0 hr hlk hname hW hl
  have hS : va_S (Rg x) s.heap s.heap [] := va_S.rf
  have hl : lv_has ls 5 [(0, .ref x), (1, .int v0), (2, .int more)] := hl
  have hx := C0.1.1
  have hb := C0.1.2.1
  subst hR
  have eK : chR t (n, w, P, Q, kp) v0 more = prS (n, w, P, Q, kp) (cEdge w (nI (lowN ((v0) >>> ((nI 5) &&& 31)) 6)) (nI (lowN ((v0) >>> ((nI 9) &&& 31)) 6)) (nI 0)) := by
    unfold chR
    rw [hk]
    show prS (n, w, P, Q, kp) (cEdge w (nI (lowN ((v0) >>> ((nI 5) &&& 31)) 6)) (nI (lowN ((v0) >>> ((nI 9) &&& 31)) 6)) (if lowN more 5 = 0 then nI 0 else nI 1)) = _
    rw [if_pos hc]
  rw [eK] at hQ
  refine lv_iload_n hx hb dL_change_0 rfl (lv_at hl 1 rfl) ?_
  refine lv_iconst (v := nI 5) hx hb dL_change_1 (by decide) ?_
  refine lv_ishr hx hb dL_change_2 ?_
  refine lv_bipush (v := nI 6) hx hb dL_change_3 (by decide) ?_
  refine mo_callS (A1 := fun _ => False) (As := [.int ((v0) >>> ((nI 5) &&& 31)), .int (nI 6)]) (rest := []) (st1 := [.int (nI (lowN ((v0) >>> ((nI 5) &&& 31)) 6))]) (Q := fun _ => True) C0 (ctL_low (v := (v0) >>> ((nI 5) &&& 31)) (n := 6) (by decide) (by decide) (Pp := fun _ => True)) (va_cwS 2 C0.1.2.2.2.2 gL_change_L_low rfl rfl rfl (by decide +kernel) ⟨Nat.le_of_ble_eq_true rfl, Nat.le_of_ble_eq_true rfl⟩) trivial hS (fun _ h => absurd h id) rfl rfl rfl hl.1 (Nat.le_of_ble_eq_true rfl) dL_change_5 ⟨Nat.le_of_ble_eq_true rfl, Nat.le_of_ble_eq_true rfl⟩ (fun H1 locs1 hT hF hS1 => ?_)
  replace hW := Wo_frame hW (fun q h1 h2 => hF.2 q h1 id)
  clear hS hT
  have hS := hS1
  clear hS1 hF
  refine lv_istore_n (lv' := [(3, .int (nI (lowN ((v0) >>> ((nI 5) &&& 31)) 6))), (0, .ref x), (1, .int (v0)), (2, .int (more))]) hx hb dL_change_8 rfl hl (by decide) rfl (fun ls hl => ?_)
  refine lv_iload_n hx hb dL_change_9 rfl (lv_at hl 2 rfl) ?_
  refine lv_bipush (v := nI 9) hx hb dL_change_10 (by decide) ?_
  refine lv_ishr hx hb dL_change_12 ?_
  refine lv_bipush (v := nI 6) hx hb dL_change_13 (by decide) ?_
  refine mo_callS (A1 := fun _ => False) (As := [.int ((v0) >>> ((nI 9) &&& 31)), .int (nI 6)]) (rest := []) (st1 := [.int (nI (lowN ((v0) >>> ((nI 9) &&& 31)) 6))]) (Q := fun _ => True) C0 (ctL_low (v := (v0) >>> ((nI 9) &&& 31)) (n := 6) (by decide) (by decide) (Pp := fun _ => True)) (va_cwS 2 C0.1.2.2.2.2 gL_change_L_low rfl rfl rfl (by decide +kernel) ⟨Nat.le_of_ble_eq_true rfl, Nat.le_of_ble_eq_true rfl⟩) trivial hS (fun _ h => absurd h id) rfl rfl rfl hl.1 (Nat.le_of_ble_eq_true rfl) dL_change_15 ⟨Nat.le_of_ble_eq_true rfl, Nat.le_of_ble_eq_true rfl⟩ (fun H1 locs1 hT hF hS1 => ?_)
  replace hW := Wo_frame hW (fun q h1 h2 => hF.2 q h1 id)
  clear hS hT
  have hS := hS1
  clear hS1 hF
  refine lv_istore (lv' := [(4, .int (nI (lowN ((v0) >>> ((nI 9) &&& 31)) 6))), (3, .int (nI (lowN ((v0) >>> ((nI 5) &&& 31)) 6))), (0, .ref x), (1, .int (v0)), (2, .int (more))]) hx hb dL_change_18 hl (by decide) rfl (fun ls hl => ?_)
  refine lv_iload_n hx hb dL_change_20 rfl (lv_at hl 3 rfl) ?_
  refine lv_bipush (v := nI 20) hx hb dL_change_21 (by decide) ?_
  refine mo_callS (A1 := fun _ => False) (As := [.int (v0), .int (nI 20)]) (rest := []) (st1 := [.int (nI (lowN v0 20))]) (Q := fun _ => True) C0 (ctL_low (v := v0) (n := 20) (by decide) (by decide) (Pp := fun _ => True)) (va_cwS 2 C0.1.2.2.2.2 gL_change_L_low rfl rfl rfl (by decide +kernel) ⟨Nat.le_of_ble_eq_true rfl, Nat.le_of_ble_eq_true rfl⟩) trivial hS (fun _ h => absurd h id) rfl rfl rfl hl.1 (Nat.le_of_ble_eq_true rfl) dL_change_23 ⟨Nat.le_of_ble_eq_true rfl, Nat.le_of_ble_eq_true rfl⟩ (fun H1 locs1 hT hF hS1 => ?_)
  replace hW := Wo_frame hW (fun q h1 h2 => hF.2 q h1 id)
  clear hS hT
  have hS := hS1
  clear hS1 hF
  refine mr_top (y := nI 10) (congrArg nI hk) ?_
  refine lv_tableIn (off := 138) (tgt := 164) hx hb dL_change_26 (by decide) (by decide) (by decide) (by decide) ?_
  refine lv_aload_n hx hb dL_change_164 rfl (lv_at hl 2 rfl) ?_
  refine lv_iload_n hx hb dL_change_165 rfl (lv_at hl 1 rfl) ?_
  refine lv_iload hx hb dL_change_166 (lv_at hl 0 rfl) ?_
  refine lv_iload_n hx hb dL_change_168 rfl (lv_at hl 4 rfl) ?_
  refine lv_iconst (v := nI 5) hx hb dL_change_169 (by decide) ?_
  refine mo_callS (A1 := fun _ => False) (As := [.int (more), .int (nI 5)]) (rest := [.int (nI (lowN ((v0) >>> ((nI 9) &&& 31)) 6)), .int (nI (lowN ((v0) >>> ((nI 5) &&& 31)) 6)), .ref x]) (st1 := [.int (nI (lowN more 5)), .int (nI (lowN ((v0) >>> ((nI 9) &&& 31)) 6)), .int (nI (lowN ((v0) >>> ((nI 5) &&& 31)) 6)), .ref x]) (Q := fun _ => True) C0 (ctL_low (v := more) (n := 5) (by decide) (by decide) (Pp := fun _ => True)) (va_cwS 2 C0.1.2.2.2.2 gL_change_L_low rfl rfl rfl (by decide +kernel) ⟨Nat.le_of_ble_eq_true rfl, Nat.le_of_ble_eq_true rfl⟩) trivial hS (fun _ h => absurd h id) rfl rfl rfl hl.1 (Nat.le_of_ble_eq_true rfl) dL_change_170 ⟨Nat.le_of_ble_eq_true rfl, Nat.le_of_ble_eq_true rfl⟩ (fun H1 locs1 hT hF hS1 => ?_)
  replace hW := Wo_frame hW (fun q h1 h2 => hF.2 q h1 id)
  clear hS hT
  have hS := hS1
  clear hS1 hF
  refine mr_ne0N (x := lowN more 5) (tgt := 180) C0 dL_change_173 (by decide) (by omega) (fun c173 => absurd c173 (by omega)) (fun c173 => ?_)
  clear c173
  refine lv_iconst (v := nI 0) hx hb dL_change_176 (by decide) ?_
  refine lv_goto (tgt := 181) hx hb dL_change_177 (by decide) ?_
  refine mo_call (x := x) (As := [.int (nI (lowN ((v0) >>> ((nI 5) &&& 31)) 6)), .int (nI (lowN ((v0) >>> ((nI 9) &&& 31)) 6)), .int (nI 0)]) (rest := []) (st1 := [.int ((prS (n, w, P, Q, kp) (cEdge w (nI (lowN ((v0) >>> ((nI 5) &&& 31)) 6)) (nI (lowN ((v0) >>> ((nI 9) &&& 31)) 6)) (nI 0))).1)]) C0 (op_edge _ _ _) hW (fun rm x1 x2 x3 x4 => cwV 3 C0.1.2.2.2.2 gL_change_X3_edge rfl x1 x2 (by decide +kernel) ⟨by show _ ≤ 8; omega, by show _ ≤ 190; omega⟩) hS (fun _ h => h) rfl rfl rfl hl.1 (Nat.le_of_ble_eq_true rfl) dL_change_181 ⟨Nat.le_of_ble_eq_true rfl, Nat.le_of_ble_eq_true rfl⟩ (fun H1 locs1 hW hF hS1 => ?_)
  clear hS
  have hS := hS1
  clear hS1 hF
  exact mr_iret (v := (prS (n, w, P, Q, kp) (cEdge w (nI (lowN ((v0) >>> ((nI 5) &&& 31)) 6)) (nI (lowN ((v0) >>> ((nI 9) &&& 31)) 6)) (nI 0))).1) C0 hr hlk hQ hS rfl hW (Nat.le_refl _) (Nat.le_refl _) dL_change_184
set_option maxHeartbeats 4000000 in
set_option maxRecDepth 100000 in
theorem chg_10b {l : Launch} {D : va_G} {T : Nat → ClassId} {x n t : Nat} {w : Nat → Int32} {P Q : Nat → Nat → Int32} {kp : Nat → Bool} {v0 more : Int32} (ht : t < 1000) (hk : lowN v0 20 = 10) (hc : ¬ lowN more 5 = 0) :
    Ct l yL_change wsL_change { frames := 8, cells := 0, slots := 0, locals := 190 } 0 0 D T (Rg x) [.ref x, .int v0, .int more] (fun H => Wo D T x t (n, w, P, Q, kp) H) (some (.int (chR t (n, w, P, Q, kp) v0 more).1)) (fun H => Wo D T x (t + 1) (chR t (n, w, P, Q, kp) v0 more).2 H) := by
  refine Ct.ofW (cc := cL_change) (maxL := 5) (ret := (some .int)) (by decide) rfl (Nat.le_of_ble_eq_true rfl) ?_
  intro p e s m args below meth c ls R Qq hR hQ C0 hr hlk hname hW hl
  have hS : va_S (Rg x) s.heap s.heap [] := va_S.rf
  have hl : lv_has ls 5 [(0, .ref x), (1, .int v0), (2, .int more)] := hl
  have hx := C0.1.1
  have hb := C0.1.2.1
  subst hR
  have eK : chR t (n, w, P, Q, kp) v0 more = prS (n, w, P, Q, kp) (cEdge w (nI (lowN ((v0) >>> ((nI 5) &&& 31)) 6)) (nI (lowN ((v0) >>> ((nI 9) &&& 31)) 6)) (nI 1)) := by
    unfold chR
    rw [hk]
    show prS (n, w, P, Q, kp) (cEdge w (nI (lowN ((v0) >>> ((nI 5) &&& 31)) 6)) (nI (lowN ((v0) >>> ((nI 9) &&& 31)) 6)) (if lowN more 5 = 0 then nI 0 else nI 1)) = _
    rw [if_neg hc]
  rw [eK] at hQ
  refine lv_iload_n hx hb dL_change_0 rfl (lv_at hl 1 rfl) ?_
  refine lv_iconst (v := nI 5) hx hb dL_change_1 (by decide) ?_
  refine lv_ishr hx hb dL_change_2 ?_
  refine lv_bipush (v := nI 6) hx hb dL_change_3 (by decide) ?_
  refine mo_callS (A1 := fun _ => False) (As := [.int ((v0) >>> ((nI 5) &&& 31)), .int (nI 6)]) (rest := []) (st1 := [.int (nI (lowN ((v0) >>> ((nI 5) &&& 31)) 6))]) (Q := fun _ => True) C0 (ctL_low (v := (v0) >>> ((nI 5) &&& 31)) (n := 6) (by decide) (by decide) (Pp := fun _ => True)) (va_cwS 2 C0.1.2.2.2.2 gL_change_L_low rfl rfl rfl (by decide +kernel) ⟨Nat.le_of_ble_eq_true rfl, Nat.le_of_ble_eq_true rfl⟩) trivial hS (fun _ h => absurd h id) rfl rfl rfl hl.1 (Nat.le_of_ble_eq_true rfl) dL_change_5 ⟨Nat.le_of_ble_eq_true rfl, Nat.le_of_ble_eq_true rfl⟩ (fun H1 locs1 hT hF hS1 => ?_)
  replace hW := Wo_frame hW (fun q h1 h2 => hF.2 q h1 id)
  clear hS hT
  have hS := hS1
  clear hS1 hF
  refine lv_istore_n (lv' := [(3, .int (nI (lowN ((v0) >>> ((nI 5) &&& 31)) 6))), (0, .ref x), (1, .int (v0)), (2, .int (more))]) hx hb dL_change_8 rfl hl (by decide) rfl (fun ls hl => ?_)
  refine lv_iload_n hx hb dL_change_9 rfl (lv_at hl 2 rfl) ?_
  refine lv_bipush (v := nI 9) hx hb dL_change_10 (by decide) ?_
  refine lv_ishr hx hb dL_change_12 ?_
  refine lv_bipush (v := nI 6) hx hb dL_change_13 (by decide) ?_
  refine mo_callS (A1 := fun _ => False) (As := [.int ((v0) >>> ((nI 9) &&& 31)), .int (nI 6)]) (rest := []) (st1 := [.int (nI (lowN ((v0) >>> ((nI 9) &&& 31)) 6))]) (Q := fun _ => True) C0 (ctL_low (v := (v0) >>> ((nI 9) &&& 31)) (n := 6) (by decide) (by decide) (Pp := fun _ => True)) (va_cwS 2 C0.1.2.2.2.2 gL_change_L_low rfl rfl rfl (by decide +kernel) ⟨Nat.le_of_ble_eq_true rfl, Nat.le_of_ble_eq_true rfl⟩) trivial hS (fun _ h => absurd h id) rfl rfl rfl hl.1 (Nat.le_of_ble_eq_true rfl) dL_change_15 ⟨Nat.le_of_ble_eq_true rfl, Nat.le_of_ble_eq_true rfl⟩ (fun H1 locs1 hT hF hS1 => ?_)
  replace hW := Wo_frame hW (fun q h1 h2 => hF.2 q h1 id)
  clear hS hT
  have hS := hS1
  clear hS1 hF
  refine lv_istore (lv' := [(4, .int (nI (lowN ((v0) >>> ((nI 9) &&& 31)) 6))), (3, .int (nI (lowN ((v0) >>> ((nI 5) &&& 31)) 6))), (0, .ref x), (1, .int (v0)), (2, .int (more))]) hx hb dL_change_18 hl (by decide) rfl (fun ls hl => ?_)
  refine lv_iload_n hx hb dL_change_20 rfl (lv_at hl 3 rfl) ?_
  refine lv_bipush (v := nI 20) hx hb dL_change_21 (by decide) ?_
  refine mo_callS (A1 := fun _ => False) (As := [.int (v0), .int (nI 20)]) (rest := []) (st1 := [.int (nI (lowN v0 20))]) (Q := fun _ => True) C0 (ctL_low (v := v0) (n := 20) (by decide) (by decide) (Pp := fun _ => True)) (va_cwS 2 C0.1.2.2.2.2 gL_change_L_low rfl rfl rfl (by decide +kernel) ⟨Nat.le_of_ble_eq_true rfl, Nat.le_of_ble_eq_true rfl⟩) trivial hS (fun _ h => absurd h id) rfl rfl rfl hl.1 (Nat.le_of_ble_eq_true rfl) dL_change_23 ⟨Nat.le_of_ble_eq_true rfl, Nat.le_of_ble_eq_true rfl⟩ (fun H1 locs1 hT hF hS1 => ?_)
  replace hW := Wo_frame hW (fun q h1 h2 => hF.2 q h1 id)
  clear hS hT
  have hS := hS1
  clear hS1 hF
  refine mr_top (y := nI 10) (congrArg nI hk) ?_
  refine lv_tableIn (off := 138) (tgt := 164) hx hb dL_change_26 (by decide) (by decide) (by decide) (by decide) ?_
  refine lv_aload_n hx hb dL_change_164 rfl (lv_at hl 2 rfl) ?_
  refine lv_iload_n hx hb dL_change_165 rfl (lv_at hl 1 rfl) ?_
  refine lv_iload hx hb dL_change_166 (lv_at hl 0 rfl) ?_
  refine lv_iload_n hx hb dL_change_168 rfl (lv_at hl 4 rfl) ?_
  refine lv_iconst (v := nI 5) hx hb dL_change_169 (by decide) ?_
  refine mo_callS (A1 := fun _ => False) (As := [.int (more), .int (nI 5)]) (rest := [.int (nI (lowN ((v0) >>> ((nI 9) &&& 31)) 6)), .int (nI (lowN ((v0) >>> ((nI 5) &&& 31)) 6)), .ref x]) (st1 := [.int (nI (lowN more 5)), .int (nI (lowN ((v0) >>> ((nI 9) &&& 31)) 6)), .int (nI (lowN ((v0) >>> ((nI 5) &&& 31)) 6)), .ref x]) (Q := fun _ => True) C0 (ctL_low (v := more) (n := 5) (by decide) (by decide) (Pp := fun _ => True)) (va_cwS 2 C0.1.2.2.2.2 gL_change_L_low rfl rfl rfl (by decide +kernel) ⟨Nat.le_of_ble_eq_true rfl, Nat.le_of_ble_eq_true rfl⟩) trivial hS (fun _ h => absurd h id) rfl rfl rfl hl.1 (Nat.le_of_ble_eq_true rfl) dL_change_170 ⟨Nat.le_of_ble_eq_true rfl, Nat.le_of_ble_eq_true rfl⟩ (fun H1 locs1 hT hF hS1 => ?_)
  replace hW := Wo_frame hW (fun q h1 h2 => hF.2 q h1 id)
  clear hS hT
  have hS := hS1
  clear hS1 hF
  refine mr_ne0N (x := lowN more 5) (tgt := 180) C0 dL_change_173 (by decide) (by have := lowN_lt more (show 0 < 5 by decide); omega) (fun c173 => ?_) (fun c173 => absurd c173 hc)
  clear c173
  refine lv_iconst (v := nI 1) hx hb dL_change_180 (by decide) ?_
  refine mo_call (x := x) (As := [.int (nI (lowN ((v0) >>> ((nI 5) &&& 31)) 6)), .int (nI (lowN ((v0) >>> ((nI 9) &&& 31)) 6)), .int (nI 1)]) (rest := []) (st1 := [.int ((prS (n, w, P, Q, kp) (cEdge w (nI (lowN ((v0) >>> ((nI 5) &&& 31)) 6)) (nI (lowN ((v0) >>> ((nI 9) &&& 31)) 6)) (nI 1))).1)]) C0 (op_edge _ _ _) hW (fun rm x1 x2 x3 x4 => cwV 3 C0.1.2.2.2.2 gL_change_X3_edge rfl x1 x2 (by decide +kernel) ⟨by show _ ≤ 8; omega, by show _ ≤ 190; omega⟩) hS (fun _ h => h) rfl rfl rfl hl.1 (Nat.le_of_ble_eq_true rfl) dL_change_181 ⟨Nat.le_of_ble_eq_true rfl, Nat.le_of_ble_eq_true rfl⟩ (fun H1 locs1 hW hF hS1 => ?_)
  clear hS
  have hS := hS1
  clear hS1 hF
  exact mr_iret (v := (prS (n, w, P, Q, kp) (cEdge w (nI (lowN ((v0) >>> ((nI 5) &&& 31)) 6)) (nI (lowN ((v0) >>> ((nI 9) &&& 31)) 6)) (nI 1))).1) C0 hr hlk hQ hS rfl hW (Nat.le_refl _) (Nat.le_refl _) dL_change_184
set_option maxHeartbeats 4000000 in
set_option maxRecDepth 100000 in
theorem chg_11a {l : Launch} {D : va_G} {T : Nat → ClassId} {x n t : Nat} {w : Nat → Int32} {P Q : Nat → Nat → Int32} {kp : Nat → Bool} {v0 more : Int32} (ht : t < 1000) (hk : lowN v0 20 = 11) (hc : lowN more 5 = 0) :
    Ct l yL_change wsL_change { frames := 8, cells := 0, slots := 0, locals := 190 } 0 0 D T (Rg x) [.ref x, .int v0, .int more] (fun H => Wo D T x t (n, w, P, Q, kp) H) (some (.int (chR t (n, w, P, Q, kp) v0 more).1)) (fun H => Wo D T x (t + 1) (chR t (n, w, P, Q, kp) v0 more).2 H) := by
  refine Ct.ofW (cc := cL_change) (maxL := 5) (ret := (some .int)) (by decide) rfl (Nat.le_of_ble_eq_true rfl) ?_
  intro p e s m args below meth c ls R Qq hR hQ C0 hr hlk hname hW hl
  have hS : va_S (Rg x) s.heap s.heap [] := va_S.rf
  have hl : lv_has ls 5 [(0, .ref x), (1, .int v0), (2, .int more)] := hl
  have hx := C0.1.1
  have hb := C0.1.2.1
  subst hR
  have eK : chR t (n, w, P, Q, kp) v0 more = prS (n, w, P, Q, kp) (cEdge w (nI (lowN ((v0) >>> ((nI 5) &&& 31)) 6)) (nI (lowN ((v0) >>> ((nI 9) &&& 31)) 6)) (nI 0)) := by
    unfold chR
    rw [hk]
    show prS (n, w, P, Q, kp) (cEdge w (nI (lowN ((v0) >>> ((nI 5) &&& 31)) 6)) (nI (lowN ((v0) >>> ((nI 9) &&& 31)) 6)) (if lowN more 5 = 0 then nI 0 else nI 1)) = _
    rw [if_pos hc]
  rw [eK] at hQ
  refine lv_iload_n hx hb dL_change_0 rfl (lv_at hl 1 rfl) ?_
  refine lv_iconst (v := nI 5) hx hb dL_change_1 (by decide) ?_
  refine lv_ishr hx hb dL_change_2 ?_
  refine lv_bipush (v := nI 6) hx hb dL_change_3 (by decide) ?_
  refine mo_callS (A1 := fun _ => False) (As := [.int ((v0) >>> ((nI 5) &&& 31)), .int (nI 6)]) (rest := []) (st1 := [.int (nI (lowN ((v0) >>> ((nI 5) &&& 31)) 6))]) (Q := fun _ => True) C0 (ctL_low (v := (v0) >>> ((nI 5) &&& 31)) (n := 6) (by decide) (by decide) (Pp := fun _ => True)) (va_cwS 2 C0.1.2.2.2.2 gL_change_L_low rfl rfl rfl (by decide +kernel) ⟨Nat.le_of_ble_eq_true rfl, Nat.le_of_ble_eq_true rfl⟩) trivial hS (fun _ h => absurd h id) rfl rfl rfl hl.1 (Nat.le_of_ble_eq_true rfl) dL_change_5 ⟨Nat.le_of_ble_eq_true rfl, Nat.le_of_ble_eq_true rfl⟩ (fun H1 locs1 hT hF hS1 => ?_)
  replace hW := Wo_frame hW (fun q h1 h2 => hF.2 q h1 id)
  clear hS hT
  have hS := hS1
  clear hS1 hF
  refine lv_istore_n (lv' := [(3, .int (nI (lowN ((v0) >>> ((nI 5) &&& 31)) 6))), (0, .ref x), (1, .int (v0)), (2, .int (more))]) hx hb dL_change_8 rfl hl (by decide) rfl (fun ls hl => ?_)
  refine lv_iload_n hx hb dL_change_9 rfl (lv_at hl 2 rfl) ?_
  refine lv_bipush (v := nI 9) hx hb dL_change_10 (by decide) ?_
  refine lv_ishr hx hb dL_change_12 ?_
  refine lv_bipush (v := nI 6) hx hb dL_change_13 (by decide) ?_
  refine mo_callS (A1 := fun _ => False) (As := [.int ((v0) >>> ((nI 9) &&& 31)), .int (nI 6)]) (rest := []) (st1 := [.int (nI (lowN ((v0) >>> ((nI 9) &&& 31)) 6))]) (Q := fun _ => True) C0 (ctL_low (v := (v0) >>> ((nI 9) &&& 31)) (n := 6) (by decide) (by decide) (Pp := fun _ => True)) (va_cwS 2 C0.1.2.2.2.2 gL_change_L_low rfl rfl rfl (by decide +kernel) ⟨Nat.le_of_ble_eq_true rfl, Nat.le_of_ble_eq_true rfl⟩) trivial hS (fun _ h => absurd h id) rfl rfl rfl hl.1 (Nat.le_of_ble_eq_true rfl) dL_change_15 ⟨Nat.le_of_ble_eq_true rfl, Nat.le_of_ble_eq_true rfl⟩ (fun H1 locs1 hT hF hS1 => ?_)
  replace hW := Wo_frame hW (fun q h1 h2 => hF.2 q h1 id)
  clear hS hT
  have hS := hS1
  clear hS1 hF
  refine lv_istore (lv' := [(4, .int (nI (lowN ((v0) >>> ((nI 9) &&& 31)) 6))), (3, .int (nI (lowN ((v0) >>> ((nI 5) &&& 31)) 6))), (0, .ref x), (1, .int (v0)), (2, .int (more))]) hx hb dL_change_18 hl (by decide) rfl (fun ls hl => ?_)
  refine lv_iload_n hx hb dL_change_20 rfl (lv_at hl 3 rfl) ?_
  refine lv_bipush (v := nI 20) hx hb dL_change_21 (by decide) ?_
  refine mo_callS (A1 := fun _ => False) (As := [.int (v0), .int (nI 20)]) (rest := []) (st1 := [.int (nI (lowN v0 20))]) (Q := fun _ => True) C0 (ctL_low (v := v0) (n := 20) (by decide) (by decide) (Pp := fun _ => True)) (va_cwS 2 C0.1.2.2.2.2 gL_change_L_low rfl rfl rfl (by decide +kernel) ⟨Nat.le_of_ble_eq_true rfl, Nat.le_of_ble_eq_true rfl⟩) trivial hS (fun _ h => absurd h id) rfl rfl rfl hl.1 (Nat.le_of_ble_eq_true rfl) dL_change_23 ⟨Nat.le_of_ble_eq_true rfl, Nat.le_of_ble_eq_true rfl⟩ (fun H1 locs1 hT hF hS1 => ?_)
  replace hW := Wo_frame hW (fun q h1 h2 => hF.2 q h1 id)
  clear hS hT
  have hS := hS1
  clear hS1 hF
  refine mr_top (y := nI 11) (congrArg nI hk) ?_
  refine lv_tableIn (off := 138) (tgt := 164) hx hb dL_change_26 (by decide) (by decide) (by decide) (by decide) ?_
  refine lv_aload_n hx hb dL_change_164 rfl (lv_at hl 2 rfl) ?_
  refine lv_iload_n hx hb dL_change_165 rfl (lv_at hl 1 rfl) ?_
  refine lv_iload hx hb dL_change_166 (lv_at hl 0 rfl) ?_
  refine lv_iload_n hx hb dL_change_168 rfl (lv_at hl 4 rfl) ?_
  refine lv_iconst (v := nI 5) hx hb dL_change_169 (by decide) ?_
  refine mo_callS (A1 := fun _ => False) (As := [.int (more), .int (nI 5)]) (rest := [.int (nI (lowN ((v0) >>> ((nI 9) &&& 31)) 6)), .int (nI (lowN ((v0) >>> ((nI 5) &&& 31)) 6)), .ref x]) (st1 := [.int (nI (lowN more 5)), .int (nI (lowN ((v0) >>> ((nI 9) &&& 31)) 6)), .int (nI (lowN ((v0) >>> ((nI 5) &&& 31)) 6)), .ref x]) (Q := fun _ => True) C0 (ctL_low (v := more) (n := 5) (by decide) (by decide) (Pp := fun _ => True)) (va_cwS 2 C0.1.2.2.2.2 gL_change_L_low rfl rfl rfl (by decide +kernel) ⟨Nat.le_of_ble_eq_true rfl, Nat.le_of_ble_eq_true rfl⟩) trivial hS (fun _ h => absurd h id) rfl rfl rfl hl.1 (Nat.le_of_ble_eq_true rfl) dL_change_170 ⟨Nat.le_of_ble_eq_true rfl, Nat.le_of_ble_eq_true rfl⟩ (fun H1 locs1 hT hF hS1 => ?_)
  replace hW := Wo_frame hW (fun q h1 h2 => hF.2 q h1 id)
  clear hS hT
  have hS := hS1
  clear hS1 hF
  refine mr_ne0N (x := lowN more 5) (tgt := 180) C0 dL_change_173 (by decide) (by omega) (fun c173 => absurd c173 (by omega)) (fun c173 => ?_)
  clear c173
  refine lv_iconst (v := nI 0) hx hb dL_change_176 (by decide) ?_
  refine lv_goto (tgt := 181) hx hb dL_change_177 (by decide) ?_
  refine mo_call (x := x) (As := [.int (nI (lowN ((v0) >>> ((nI 5) &&& 31)) 6)), .int (nI (lowN ((v0) >>> ((nI 9) &&& 31)) 6)), .int (nI 0)]) (rest := []) (st1 := [.int ((prS (n, w, P, Q, kp) (cEdge w (nI (lowN ((v0) >>> ((nI 5) &&& 31)) 6)) (nI (lowN ((v0) >>> ((nI 9) &&& 31)) 6)) (nI 0))).1)]) C0 (op_edge _ _ _) hW (fun rm x1 x2 x3 x4 => cwV 3 C0.1.2.2.2.2 gL_change_X3_edge rfl x1 x2 (by decide +kernel) ⟨by show _ ≤ 8; omega, by show _ ≤ 190; omega⟩) hS (fun _ h => h) rfl rfl rfl hl.1 (Nat.le_of_ble_eq_true rfl) dL_change_181 ⟨Nat.le_of_ble_eq_true rfl, Nat.le_of_ble_eq_true rfl⟩ (fun H1 locs1 hW hF hS1 => ?_)
  clear hS
  have hS := hS1
  clear hS1 hF
  exact mr_iret (v := (prS (n, w, P, Q, kp) (cEdge w (nI (lowN ((v0) >>> ((nI 5) &&& 31)) 6)) (nI (lowN ((v0) >>> ((nI 9) &&& 31)) 6)) (nI 0))).1) C0 hr hlk hQ hS rfl hW (Nat.le_refl _) (Nat.le_refl _) dL_change_184
set_option maxHeartbeats 4000000 in
set_option maxRecDepth 100000 in
theorem chg_11b {l : Launch} {D : va_G} {T : Nat → ClassId} {x n t : Nat} {w : Nat → Int32} {P Q : Nat → Nat → Int32} {kp : Nat → Bool} {v0 more : Int32} (ht : t < 1000) (hk : lowN v0 20 = 11) (hc : ¬ lowN more 5 = 0) :
    Ct l yL_change wsL_change { frames := 8, cells := 0, slots := 0, locals := 190 } 0 0 D T (Rg x) [.ref x, .int v0, .int more] (fun H => Wo D T x t (n, w, P, Q, kp) H) (some (.int (chR t (n, w, P, Q, kp) v0 more).1)) (fun H => Wo D T x (t + 1) (chR t (n, w, P, Q, kp) v0 more).2 H) := by
  refine Ct.ofW (cc := cL_change) (maxL := 5) (ret := (some .int)) (by decide) rfl (Nat.le_of_ble_eq_true rfl) ?_
  intro p e s m args below meth c ls R Qq hR hQ C0 hr hlk hname hW hl
  have hS : va_S (Rg x) s.heap s.heap [] := va_S.rf
  have hl : lv_has ls 5 [(0, .ref x), (1, .int v0), (2, .int more)] := hl
  have hx := C0.1.1
  have hb := C0.1.2.1
  subst hR
  have eK : chR t (n, w, P, Q, kp) v0 more = prS (n, w, P, Q, kp) (cEdge w (nI (lowN ((v0) >>> ((nI 5) &&& 31)) 6)) (nI (lowN ((v0) >>> ((nI 9) &&& 31)) 6)) (nI 1)) := by
    unfold chR
    rw [hk]
    show prS (n, w, P, Q, kp) (cEdge w (nI (lowN ((v0) >>> ((nI 5) &&& 31)) 6)) (nI (lowN ((v0) >>> ((nI 9) &&& 31)) 6)) (if lowN more 5 = 0 then nI 0 else nI 1)) = _
    rw [if_neg hc]
  rw [eK] at hQ
  refine lv_iload_n hx hb dL_change_0 rfl (lv_at hl 1 rfl) ?_
  refine lv_iconst (v := nI 5) hx hb dL_change_1 (by decide) ?_
  refine lv_ishr hx hb dL_change_2 ?_
  refine lv_bipush (v := nI 6) hx hb dL_change_3 (by decide) ?_
  refine mo_callS (A1 := fun _ => False) (As := [.int ((v0) >>> ((nI 5) &&& 31)), .int (nI 6)]) (rest := []) (st1 := [.int (nI (lowN ((v0) >>> ((nI 5) &&& 31)) 6))]) (Q := fun _ => True) C0 (ctL_low (v := (v0) >>> ((nI 5) &&& 31)) (n := 6) (by decide) (by decide) (Pp := fun _ => True)) (va_cwS 2 C0.1.2.2.2.2 gL_change_L_low rfl rfl rfl (by decide +kernel) ⟨Nat.le_of_ble_eq_true rfl, Nat.le_of_ble_eq_true rfl⟩) trivial hS (fun _ h => absurd h id) rfl rfl rfl hl.1 (Nat.le_of_ble_eq_true rfl) dL_change_5 ⟨Nat.le_of_ble_eq_true rfl, Nat.le_of_ble_eq_true rfl⟩ (fun H1 locs1 hT hF hS1 => ?_)
  replace hW := Wo_frame hW (fun q h1 h2 => hF.2 q h1 id)
  clear hS hT
  have hS := hS1
  clear hS1 hF
  refine lv_istore_n (lv' := [(3, .int (nI (lowN ((v0) >>> ((nI 5) &&& 31)) 6))), (0, .ref x), (1, .int (v0)), (2, .int (more))]) hx hb dL_change_8 rfl hl (by decide) rfl (fun ls hl => ?_)
  refine lv_iload_n hx hb dL_change_9 rfl (lv_at hl 2 rfl) ?_
  refine lv_bipush (v := nI 9) hx hb dL_change_10 (by decide) ?_
  refine lv_ishr hx hb dL_change_12 ?_
  refine lv_bipush (v := nI 6) hx hb dL_change_13 (by decide) ?_
  refine mo_callS (A1 := fun _ => False) (As := [.int ((v0) >>> ((nI 9) &&& 31)), .int (nI 6)]) (rest := []) (st1 := [.int (nI (lowN ((v0) >>> ((nI 9) &&& 31)) 6))]) (Q := fun _ => True) C0 (ctL_low (v := (v0) >>> ((nI 9) &&& 31)) (n := 6) (by decide) (by decide) (Pp := fun _ => True)) (va_cwS 2 C0.1.2.2.2.2 gL_change_L_low rfl rfl rfl (by decide +kernel) ⟨Nat.le_of_ble_eq_true rfl, Nat.le_of_ble_eq_true rfl⟩) trivial hS (fun _ h => absurd h id) rfl rfl rfl hl.1 (Nat.le_of_ble_eq_true rfl) dL_change_15 ⟨Nat.le_of_ble_eq_true rfl, Nat.le_of_ble_eq_true rfl⟩ (fun H1 locs1 hT hF hS1 => ?_)
  replace hW := Wo_frame hW (fun q h1 h2 => hF.2 q h1 id)
  clear hS hT
  have hS := hS1
  clear hS1 hF
  refine lv_istore (lv' := [(4, .int (nI (lowN ((v0) >>> ((nI 9) &&& 31)) 6))), (3, .int (nI (lowN ((v0) >>> ((nI 5) &&& 31)) 6))), (0, .ref x), (1, .int (v0)), (2, .int (more))]) hx hb dL_change_18 hl (by decide) rfl (fun ls hl => ?_)
  refine lv_iload_n hx hb dL_change_20 rfl (lv_at hl 3 rfl) ?_
  refine lv_bipush (v := nI 20) hx hb dL_change_21 (by decide) ?_
  refine mo_callS (A1 := fun _ => False) (As := [.int (v0), .int (nI 20)]) (rest := []) (st1 := [.int (nI (lowN v0 20))]) (Q := fun _ => True) C0 (ctL_low (v := v0) (n := 20) (by decide) (by decide) (Pp := fun _ => True)) (va_cwS 2 C0.1.2.2.2.2 gL_change_L_low rfl rfl rfl (by decide +kernel) ⟨Nat.le_of_ble_eq_true rfl, Nat.le_of_ble_eq_true rfl⟩) trivial hS (fun _ h => absurd h id) rfl rfl rfl hl.1 (Nat.le_of_ble_eq_true rfl) dL_change_23 ⟨Nat.le_of_ble_eq_true rfl, Nat.le_of_ble_eq_true rfl⟩ (fun H1 locs1 hT hF hS1 => ?_)
  replace hW := Wo_frame hW (fun q h1 h2 => hF.2 q h1 id)
  clear hS hT
  have hS := hS1
  clear hS1 hF
  refine mr_top (y := nI 11) (congrArg nI hk) ?_
  refine lv_tableIn (off := 138) (tgt := 164) hx hb dL_change_26 (by decide) (by decide) (by decide) (by decide) ?_
  refine lv_aload_n hx hb dL_change_164 rfl (lv_at hl 2 rfl) ?_
  refine lv_iload_n hx hb dL_change_165 rfl (lv_at hl 1 rfl) ?_
  refine lv_iload hx hb dL_change_166 (lv_at hl 0 rfl) ?_
  refine lv_iload_n hx hb dL_change_168 rfl (lv_at hl 4 rfl) ?_
  refine lv_iconst (v := nI 5) hx hb dL_change_169 (by decide) ?_
  refine mo_callS (A1 := fun _ => False) (As := [.int (more), .int (nI 5)]) (rest := [.int (nI (lowN ((v0) >>> ((nI 9) &&& 31)) 6)), .int (nI (lowN ((v0) >>> ((nI 5) &&& 31)) 6)), .ref x]) (st1 := [.int (nI (lowN more 5)), .int (nI (lowN ((v0) >>> ((nI 9) &&& 31)) 6)), .int (nI (lowN ((v0) >>> ((nI 5) &&& 31)) 6)), .ref x]) (Q := fun _ => True) C0 (ctL_low (v := more) (n := 5) (by decide) (by decide) (Pp := fun _ => True)) (va_cwS 2 C0.1.2.2.2.2 gL_change_L_low rfl rfl rfl (by decide +kernel) ⟨Nat.le_of_ble_eq_true rfl, Nat.le_of_ble_eq_true rfl⟩) trivial hS (fun _ h => absurd h id) rfl rfl rfl hl.1 (Nat.le_of_ble_eq_true rfl) dL_change_170 ⟨Nat.le_of_ble_eq_true rfl, Nat.le_of_ble_eq_true rfl⟩ (fun H1 locs1 hT hF hS1 => ?_)
  replace hW := Wo_frame hW (fun q h1 h2 => hF.2 q h1 id)
  clear hS hT
  have hS := hS1
  clear hS1 hF
  refine mr_ne0N (x := lowN more 5) (tgt := 180) C0 dL_change_173 (by decide) (by have := lowN_lt more (show 0 < 5 by decide); omega) (fun c173 => ?_) (fun c173 => absurd c173 hc)
  clear c173
  refine lv_iconst (v := nI 1) hx hb dL_change_180 (by decide) ?_
  refine mo_call (x := x) (As := [.int (nI (lowN ((v0) >>> ((nI 5) &&& 31)) 6)), .int (nI (lowN ((v0) >>> ((nI 9) &&& 31)) 6)), .int (nI 1)]) (rest := []) (st1 := [.int ((prS (n, w, P, Q, kp) (cEdge w (nI (lowN ((v0) >>> ((nI 5) &&& 31)) 6)) (nI (lowN ((v0) >>> ((nI 9) &&& 31)) 6)) (nI 1))).1)]) C0 (op_edge _ _ _) hW (fun rm x1 x2 x3 x4 => cwV 3 C0.1.2.2.2.2 gL_change_X3_edge rfl x1 x2 (by decide +kernel) ⟨by show _ ≤ 8; omega, by show _ ≤ 190; omega⟩) hS (fun _ h => h) rfl rfl rfl hl.1 (Nat.le_of_ble_eq_true rfl) dL_change_181 ⟨Nat.le_of_ble_eq_true rfl, Nat.le_of_ble_eq_true rfl⟩ (fun H1 locs1 hW hF hS1 => ?_)
  clear hS
  have hS := hS1
  clear hS1 hF
  exact mr_iret (v := (prS (n, w, P, Q, kp) (cEdge w (nI (lowN ((v0) >>> ((nI 5) &&& 31)) 6)) (nI (lowN ((v0) >>> ((nI 9) &&& 31)) 6)) (nI 1))).1) C0 hr hlk hQ hS rfl hW (Nat.le_refl _) (Nat.le_refl _) dL_change_184
set_option maxHeartbeats 4000000 in
set_option maxRecDepth 100000 in
theorem chg_12a {l : Launch} {D : va_G} {T : Nat → ClassId} {x n t : Nat} {w : Nat → Int32} {P Q : Nat → Nat → Int32} {kp : Nat → Bool} {v0 more : Int32} (ht : t < 1000) (hk : lowN v0 20 = 12) (hc : lowN more 5 = 0) :
    Ct l yL_change wsL_change { frames := 8, cells := 0, slots := 0, locals := 190 } 0 0 D T (Rg x) [.ref x, .int v0, .int more] (fun H => Wo D T x t (n, w, P, Q, kp) H) (some (.int (chR t (n, w, P, Q, kp) v0 more).1)) (fun H => Wo D T x (t + 1) (chR t (n, w, P, Q, kp) v0 more).2 H) := by
  refine Ct.ofW (cc := cL_change) (maxL := 5) (ret := (some .int)) (by decide) rfl (Nat.le_of_ble_eq_true rfl) ?_
  intro p e s m args below meth c ls R Qq hR hQ C0 hr hlk hname hW hl
  have hS : va_S (Rg x) s.heap s.heap [] := va_S.rf
  have hl : lv_has ls 5 [(0, .ref x), (1, .int v0), (2, .int more)] := hl
  have hx := C0.1.1
  have hb := C0.1.2.1
  subst hR
  have eK : chR t (n, w, P, Q, kp) v0 more = prS (n, w, P, Q, kp) (cEdge w (nI (lowN ((v0) >>> ((nI 5) &&& 31)) 6)) (nI (lowN ((v0) >>> ((nI 9) &&& 31)) 6)) (nI 0)) := by
    unfold chR
    rw [hk]
    show prS (n, w, P, Q, kp) (cEdge w (nI (lowN ((v0) >>> ((nI 5) &&& 31)) 6)) (nI (lowN ((v0) >>> ((nI 9) &&& 31)) 6)) (if lowN more 5 = 0 then nI 0 else nI 1)) = _
    rw [if_pos hc]
  rw [eK] at hQ
  refine lv_iload_n hx hb dL_change_0 rfl (lv_at hl 1 rfl) ?_
  refine lv_iconst (v := nI 5) hx hb dL_change_1 (by decide) ?_
  refine lv_ishr hx hb dL_change_2 ?_
  refine lv_bipush (v := nI 6) hx hb dL_change_3 (by decide) ?_
  refine mo_callS (A1 := fun _ => False) (As := [.int ((v0) >>> ((nI 5) &&& 31)), .int (nI 6)]) (rest := []) (st1 := [.int (nI (lowN ((v0) >>> ((nI 5) &&& 31)) 6))]) (Q := fun _ => True) C0 (ctL_low (v := (v0) >>> ((nI 5) &&& 31)) (n := 6) (by decide) (by decide) (Pp := fun _ => True)) (va_cwS 2 C0.1.2.2.2.2 gL_change_L_low rfl rfl rfl (by decide +kernel) ⟨Nat.le_of_ble_eq_true rfl, Nat.le_of_ble_eq_true rfl⟩) trivial hS (fun _ h => absurd h id) rfl rfl rfl hl.1 (Nat.le_of_ble_eq_true rfl) dL_change_5 ⟨Nat.le_of_ble_eq_true rfl, Nat.le_of_ble_eq_true rfl⟩ (fun H1 locs1 hT hF hS1 => ?_)
  replace hW := Wo_frame hW (fun q h1 h2 => hF.2 q h1 id)
  clear hS hT
  have hS := hS1
  clear hS1 hF
  refine lv_istore_n (lv' := [(3, .int (nI (lowN ((v0) >>> ((nI 5) &&& 31)) 6))), (0, .ref x), (1, .int (v0)), (2, .int (more))]) hx hb dL_change_8 rfl hl (by decide) rfl (fun ls hl => ?_)
  refine lv_iload_n hx hb dL_change_9 rfl (lv_at hl 2 rfl) ?_
  refine lv_bipush (v := nI 9) hx hb dL_change_10 (by decide) ?_
  refine lv_ishr hx hb dL_change_12 ?_
  refine lv_bipush (v := nI 6) hx hb dL_change_13 (by decide) ?_
  refine mo_callS (A1 := fun _ => False) (As := [.int ((v0) >>> ((nI 9) &&& 31)), .int (nI 6)]) (rest := []) (st1 := [.int (nI (lowN ((v0) >>> ((nI 9) &&& 31)) 6))]) (Q := fun _ => True) C0 (ctL_low (v := (v0) >>> ((nI 9) &&& 31)) (n := 6) (by decide) (by decide) (Pp := fun _ => True)) (va_cwS 2 C0.1.2.2.2.2 gL_change_L_low rfl rfl rfl (by decide +kernel) ⟨Nat.le_of_ble_eq_true rfl, Nat.le_of_ble_eq_true rfl⟩) trivial hS (fun _ h => absurd h id) rfl rfl rfl hl.1 (Nat.le_of_ble_eq_true rfl) dL_change_15 ⟨Nat.le_of_ble_eq_true rfl, Nat.le_of_ble_eq_true rfl⟩ (fun H1 locs1 hT hF hS1 => ?_)
  replace hW := Wo_frame hW (fun q h1 h2 => hF.2 q h1 id)
  clear hS hT
  have hS := hS1
  clear hS1 hF
  refine lv_istore (lv' := [(4, .int (nI (lowN ((v0) >>> ((nI 9) &&& 31)) 6))), (3, .int (nI (lowN ((v0) >>> ((nI 5) &&& 31)) 6))), (0, .ref x), (1, .int (v0)), (2, .int (more))]) hx hb dL_change_18 hl (by decide) rfl (fun ls hl => ?_)
  refine lv_iload_n hx hb dL_change_20 rfl (lv_at hl 3 rfl) ?_
  refine lv_bipush (v := nI 20) hx hb dL_change_21 (by decide) ?_
  refine mo_callS (A1 := fun _ => False) (As := [.int (v0), .int (nI 20)]) (rest := []) (st1 := [.int (nI (lowN v0 20))]) (Q := fun _ => True) C0 (ctL_low (v := v0) (n := 20) (by decide) (by decide) (Pp := fun _ => True)) (va_cwS 2 C0.1.2.2.2.2 gL_change_L_low rfl rfl rfl (by decide +kernel) ⟨Nat.le_of_ble_eq_true rfl, Nat.le_of_ble_eq_true rfl⟩) trivial hS (fun _ h => absurd h id) rfl rfl rfl hl.1 (Nat.le_of_ble_eq_true rfl) dL_change_23 ⟨Nat.le_of_ble_eq_true rfl, Nat.le_of_ble_eq_true rfl⟩ (fun H1 locs1 hT hF hS1 => ?_)
  replace hW := Wo_frame hW (fun q h1 h2 => hF.2 q h1 id)
  clear hS hT
  have hS := hS1
  clear hS1 hF
  refine mr_top (y := nI 12) (congrArg nI hk) ?_
  refine lv_tableIn (off := 138) (tgt := 164) hx hb dL_change_26 (by decide) (by decide) (by decide) (by decide) ?_
  refine lv_aload_n hx hb dL_change_164 rfl (lv_at hl 2 rfl) ?_
  refine lv_iload_n hx hb dL_change_165 rfl (lv_at hl 1 rfl) ?_
  refine lv_iload hx hb dL_change_166 (lv_at hl 0 rfl) ?_
  refine lv_iload_n hx hb dL_change_168 rfl (lv_at hl 4 rfl) ?_
  refine lv_iconst (v := nI 5) hx hb dL_change_169 (by decide) ?_
  refine mo_callS (A1 := fun _ => False) (As := [.int (more), .int (nI 5)]) (rest := [.int (nI (lowN ((v0) >>> ((nI 9) &&& 31)) 6)), .int (nI (lowN ((v0) >>> ((nI 5) &&& 31)) 6)), .ref x]) (st1 := [.int (nI (lowN more 5)), .int (nI (lowN ((v0) >>> ((nI 9) &&& 31)) 6)), .int (nI (lowN ((v0) >>> ((nI 5) &&& 31)) 6)), .ref x]) (Q := fun _ => True) C0 (ctL_low (v := more) (n := 5) (by decide) (by decide) (Pp := fun _ => True)) (va_cwS 2 C0.1.2.2.2.2 gL_change_L_low rfl rfl rfl (by decide +kernel) ⟨Nat.le_of_ble_eq_true rfl, Nat.le_of_ble_eq_true rfl⟩) trivial hS (fun _ h => absurd h id) rfl rfl rfl hl.1 (Nat.le_of_ble_eq_true rfl) dL_change_170 ⟨Nat.le_of_ble_eq_true rfl, Nat.le_of_ble_eq_true rfl⟩ (fun H1 locs1 hT hF hS1 => ?_)
  replace hW := Wo_frame hW (fun q h1 h2 => hF.2 q h1 id)
  clear hS hT
  have hS := hS1
  clear hS1 hF
  refine mr_ne0N (x := lowN more 5) (tgt := 180) C0 dL_change_173 (by decide) (by omega) (fun c173 => absurd c173 (by omega)) (fun c173 => ?_)
  clear c173
  refine lv_iconst (v := nI 0) hx hb dL_change_176 (by decide) ?_
  refine lv_goto (tgt := 181) hx hb dL_change_177 (by decide) ?_
  refine mo_call (x := x) (As := [.int (nI (lowN ((v0) >>> ((nI 5) &&& 31)) 6)), .int (nI (lowN ((v0) >>> ((nI 9) &&& 31)) 6)), .int (nI 0)]) (rest := []) (st1 := [.int ((prS (n, w, P, Q, kp) (cEdge w (nI (lowN ((v0) >>> ((nI 5) &&& 31)) 6)) (nI (lowN ((v0) >>> ((nI 9) &&& 31)) 6)) (nI 0))).1)]) C0 (op_edge _ _ _) hW (fun rm x1 x2 x3 x4 => cwV 3 C0.1.2.2.2.2 gL_change_X3_edge rfl x1 x2 (by decide +kernel) ⟨by show _ ≤ 8; omega, by show _ ≤ 190; omega⟩) hS (fun _ h => h) rfl rfl rfl hl.1 (Nat.le_of_ble_eq_true rfl) dL_change_181 ⟨Nat.le_of_ble_eq_true rfl, Nat.le_of_ble_eq_true rfl⟩ (fun H1 locs1 hW hF hS1 => ?_)
  clear hS
  have hS := hS1
  clear hS1 hF
  exact mr_iret (v := (prS (n, w, P, Q, kp) (cEdge w (nI (lowN ((v0) >>> ((nI 5) &&& 31)) 6)) (nI (lowN ((v0) >>> ((nI 9) &&& 31)) 6)) (nI 0))).1) C0 hr hlk hQ hS rfl hW (Nat.le_refl _) (Nat.le_refl _) dL_change_184
set_option maxHeartbeats 4000000 in
set_option maxRecDepth 100000 in
theorem chg_12b {l : Launch} {D : va_G} {T : Nat → ClassId} {x n t : Nat} {w : Nat → Int32} {P Q : Nat → Nat → Int32} {kp : Nat → Bool} {v0 more : Int32} (ht : t < 1000) (hk : lowN v0 20 = 12) (hc : ¬ lowN more 5 = 0) :
    Ct l yL_change wsL_change { frames := 8, cells := 0, slots := 0, locals := 190 } 0 0 D T (Rg x) [.ref x, .int v0, .int more] (fun H => Wo D T x t (n, w, P, Q, kp) H) (some (.int (chR t (n, w, P, Q, kp) v0 more).1)) (fun H => Wo D T x (t + 1) (chR t (n, w, P, Q, kp) v0 more).2 H) := by
  refine Ct.ofW (cc := cL_change) (maxL := 5) (ret := (some .int)) (by decide) rfl (Nat.le_of_ble_eq_true rfl) ?_
  intro p e s m args below meth c ls R Qq hR hQ C0 hr hlk hname hW hl
  have hS : va_S (Rg x) s.heap s.heap [] := va_S.rf
  have hl : lv_has ls 5 [(0, .ref x), (1, .int v0), (2, .int more)] := hl
  have hx := C0.1.1
  have hb := C0.1.2.1
  subst hR
  have eK : chR t (n, w, P, Q, kp) v0 more = prS (n, w, P, Q, kp) (cEdge w (nI (lowN ((v0) >>> ((nI 5) &&& 31)) 6)) (nI (lowN ((v0) >>> ((nI 9) &&& 31)) 6)) (nI 1)) := by
    unfold chR
    rw [hk]
    show prS (n, w, P, Q, kp) (cEdge w (nI (lowN ((v0) >>> ((nI 5) &&& 31)) 6)) (nI (lowN ((v0) >>> ((nI 9) &&& 31)) 6)) (if lowN more 5 = 0 then nI 0 else nI 1)) = _
    rw [if_neg hc]
  rw [eK] at hQ
  refine lv_iload_n hx hb dL_change_0 rfl (lv_at hl 1 rfl) ?_
  refine lv_iconst (v := nI 5) hx hb dL_change_1 (by decide) ?_
  refine lv_ishr hx hb dL_change_2 ?_
  refine lv_bipush (v := nI 6) hx hb dL_change_3 (by decide) ?_
  refine mo_callS (A1 := fun _ => False) (As := [.int ((v0) >>> ((nI 5) &&& 31)), .int (nI 6)]) (rest := []) (st1 := [.int (nI (lowN ((v0) >>> ((nI 5) &&& 31)) 6))]) (Q := fun _ => True) C0 (ctL_low (v := (v0) >>> ((nI 5) &&& 31)) (n := 6) (by decide) (by decide) (Pp := fun _ => True)) (va_cwS 2 C0.1.2.2.2.2 gL_change_L_low rfl rfl rfl (by decide +kernel) ⟨Nat.le_of_ble_eq_true rfl, Nat.le_of_ble_eq_true rfl⟩) trivial hS (fun _ h => absurd h id) rfl rfl rfl hl.1 (Nat.le_of_ble_eq_true rfl) dL_change_5 ⟨Nat.le_of_ble_eq_true rfl, Nat.le_of_ble_eq_true rfl⟩ (fun H1 locs1 hT hF hS1 => ?_)
  replace hW := Wo_frame hW (fun q h1 h2 => hF.2 q h1 id)
  clear hS hT
  have hS := hS1
  clear hS1 hF
  refine lv_istore_n (lv' := [(3, .int (nI (lowN ((v0) >>> ((nI 5) &&& 31)) 6))), (0, .ref x), (1, .int (v0)), (2, .int (more))]) hx hb dL_change_8 rfl hl (by decide) rfl (fun ls hl => ?_)
  refine lv_iload_n hx hb dL_change_9 rfl (lv_at hl 2 rfl) ?_
  refine lv_bipush (v := nI 9) hx hb dL_change_10 (by decide) ?_
  refine lv_ishr hx hb dL_change_12 ?_
  refine lv_bipush (v := nI 6) hx hb dL_change_13 (by decide) ?_
  refine mo_callS (A1 := fun _ => False) (As := [.int ((v0) >>> ((nI 9) &&& 31)), .int (nI 6)]) (rest := []) (st1 := [.int (nI (lowN ((v0) >>> ((nI 9) &&& 31)) 6))]) (Q := fun _ => True) C0 (ctL_low (v := (v0) >>> ((nI 9) &&& 31)) (n := 6) (by decide) (by decide) (Pp := fun _ => True)) (va_cwS 2 C0.1.2.2.2.2 gL_change_L_low rfl rfl rfl (by decide +kernel) ⟨Nat.le_of_ble_eq_true rfl, Nat.le_of_ble_eq_true rfl⟩) trivial hS (fun _ h => absurd h id) rfl rfl rfl hl.1 (Nat.le_of_ble_eq_true rfl) dL_change_15 ⟨Nat.le_of_ble_eq_true rfl, Nat.le_of_ble_eq_true rfl⟩ (fun H1 locs1 hT hF hS1 => ?_)
  replace hW := Wo_frame hW (fun q h1 h2 => hF.2 q h1 id)
  clear hS hT
  have hS := hS1
  clear hS1 hF
  refine lv_istore (lv' := [(4, .int (nI (lowN ((v0) >>> ((nI 9) &&& 31)) 6))), (3, .int (nI (lowN ((v0) >>> ((nI 5) &&& 31)) 6))), (0, .ref x), (1, .int (v0)), (2, .int (more))]) hx hb dL_change_18 hl (by decide) rfl (fun ls hl => ?_)
  refine lv_iload_n hx hb dL_change_20 rfl (lv_at hl 3 rfl) ?_
  refine lv_bipush (v := nI 20) hx hb dL_change_21 (by decide) ?_
  refine mo_callS (A1 := fun _ => False) (As := [.int (v0), .int (nI 20)]) (rest := []) (st1 := [.int (nI (lowN v0 20))]) (Q := fun _ => True) C0 (ctL_low (v := v0) (n := 20) (by decide) (by decide) (Pp := fun _ => True)) (va_cwS 2 C0.1.2.2.2.2 gL_change_L_low rfl rfl rfl (by decide +kernel) ⟨Nat.le_of_ble_eq_true rfl, Nat.le_of_ble_eq_true rfl⟩) trivial hS (fun _ h => absurd h id) rfl rfl rfl hl.1 (Nat.le_of_ble_eq_true rfl) dL_change_23 ⟨Nat.le_of_ble_eq_true rfl, Nat.le_of_ble_eq_true rfl⟩ (fun H1 locs1 hT hF hS1 => ?_)
  replace hW := Wo_frame hW (fun q h1 h2 => hF.2 q h1 id)
  clear hS hT
  have hS := hS1
  clear hS1 hF
  refine mr_top (y := nI 12) (congrArg nI hk) ?_
  refine lv_tableIn (off := 138) (tgt := 164) hx hb dL_change_26 (by decide) (by decide) (by decide) (by decide) ?_
  refine lv_aload_n hx hb dL_change_164 rfl (lv_at hl 2 rfl) ?_
  refine lv_iload_n hx hb dL_change_165 rfl (lv_at hl 1 rfl) ?_
  refine lv_iload hx hb dL_change_166 (lv_at hl 0 rfl) ?_
  refine lv_iload_n hx hb dL_change_168 rfl (lv_at hl 4 rfl) ?_
  refine lv_iconst (v := nI 5) hx hb dL_change_169 (by decide) ?_
  refine mo_callS (A1 := fun _ => False) (As := [.int (more), .int (nI 5)]) (rest := [.int (nI (lowN ((v0) >>> ((nI 9) &&& 31)) 6)), .int (nI (lowN ((v0) >>> ((nI 5) &&& 31)) 6)), .ref x]) (st1 := [.int (nI (lowN more 5)), .int (nI (lowN ((v0) >>> ((nI 9) &&& 31)) 6)), .int (nI (lowN ((v0) >>> ((nI 5) &&& 31)) 6)), .ref x]) (Q := fun _ => True) C0 (ctL_low (v := more) (n := 5) (by decide) (by decide) (Pp := fun _ => True)) (va_cwS 2 C0.1.2.2.2.2 gL_change_L_low rfl rfl rfl (by decide +kernel) ⟨Nat.le_of_ble_eq_true rfl, Nat.le_of_ble_eq_true rfl⟩) trivial hS (fun _ h => absurd h id) rfl rfl rfl hl.1 (Nat.le_of_ble_eq_true rfl) dL_change_170 ⟨Nat.le_of_ble_eq_true rfl, Nat.le_of_ble_eq_true rfl⟩ (fun H1 locs1 hT hF hS1 => ?_)
  replace hW := Wo_frame hW (fun q h1 h2 => hF.2 q h1 id)
  clear hS hT
  have hS := hS1
  clear hS1 hF
  refine mr_ne0N (x := lowN more 5) (tgt := 180) C0 dL_change_173 (by decide) (by have := lowN_lt more (show 0 < 5 by decide); omega) (fun c173 => ?_) (fun c173 => absurd c173 hc)
  clear c173
  refine lv_iconst (v := nI 1) hx hb dL_change_180 (by decide) ?_
  refine mo_call (x := x) (As := [.int (nI (lowN ((v0) >>> ((nI 5) &&& 31)) 6)), .int (nI (lowN ((v0) >>> ((nI 9) &&& 31)) 6)), .int (nI 1)]) (rest := []) (st1 := [.int ((prS (n, w, P, Q, kp) (cEdge w (nI (lowN ((v0) >>> ((nI 5) &&& 31)) 6)) (nI (lowN ((v0) >>> ((nI 9) &&& 31)) 6)) (nI 1))).1)]) C0 (op_edge _ _ _) hW (fun rm x1 x2 x3 x4 => cwV 3 C0.1.2.2.2.2 gL_change_X3_edge rfl x1 x2 (by decide +kernel) ⟨by show _ ≤ 8; omega, by show _ ≤ 190; omega⟩) hS (fun _ h => h) rfl rfl rfl hl.1 (Nat.le_of_ble_eq_true rfl) dL_change_181 ⟨Nat.le_of_ble_eq_true rfl, Nat.le_of_ble_eq_true rfl⟩ (fun H1 locs1 hW hF hS1 => ?_)
  clear hS
  have hS := hS1
  clear hS1 hF
  exact mr_iret (v := (prS (n, w, P, Q, kp) (cEdge w (nI (lowN ((v0) >>> ((nI 5) &&& 31)) 6)) (nI (lowN ((v0) >>> ((nI 9) &&& 31)) 6)) (nI 1))).1) C0 hr hlk hQ hS rfl hW (Nat.le_refl _) (Nat.le_refl _) dL_change_184
set_option maxHeartbeats 4000000 in
set_option maxRecDepth 100000 in
theorem chg_13 {l : Launch} {D : va_G} {T : Nat → ClassId} {x n t : Nat} {w : Nat → Int32} {P Q : Nat → Nat → Int32} {kp : Nat → Bool} {v0 more : Int32} (ht : t < 1000) (hk : lowN v0 20 = 13) :
    Ct l yL_change wsL_change { frames := 8, cells := 0, slots := 0, locals := 190 } 0 0 D T (Rg x) [.ref x, .int v0, .int more] (fun H => Wo D T x t (n, w, P, Q, kp) H) (some (.int (chR t (n, w, P, Q, kp) v0 more).1)) (fun H => Wo D T x (t + 1) (chR t (n, w, P, Q, kp) v0 more).2 H) := by
  refine Ct.ofW (cc := cL_change) (maxL := 5) (ret := (some .int)) (by decide) rfl (Nat.le_of_ble_eq_true rfl) ?_
  intro p e s m args below meth c ls R Qq hR hQ C0 hr hlk hname hW hl
  have hS : va_S (Rg x) s.heap s.heap [] := va_S.rf
  have hl : lv_has ls 5 [(0, .ref x), (1, .int v0), (2, .int more)] := hl
  have hx := C0.1.1
  have hb := C0.1.2.1
  subst hR
  have eK : chR t (n, w, P, Q, kp) v0 more = prS (n, w, P, Q, kp) (cCommit w) := by
    unfold chR
    rw [hk]
    rfl
  rw [eK] at hQ
  refine lv_iload_n hx hb dL_change_0 rfl (lv_at hl 1 rfl) ?_
  refine lv_iconst (v := nI 5) hx hb dL_change_1 (by decide) ?_
  refine lv_ishr hx hb dL_change_2 ?_
  refine lv_bipush (v := nI 6) hx hb dL_change_3 (by decide) ?_
  refine mo_callS (A1 := fun _ => False) (As := [.int ((v0) >>> ((nI 5) &&& 31)), .int (nI 6)]) (rest := []) (st1 := [.int (nI (lowN ((v0) >>> ((nI 5) &&& 31)) 6))]) (Q := fun _ => True) C0 (ctL_low (v := (v0) >>> ((nI 5) &&& 31)) (n := 6) (by decide) (by decide) (Pp := fun _ => True)) (va_cwS 2 C0.1.2.2.2.2 gL_change_L_low rfl rfl rfl (by decide +kernel) ⟨Nat.le_of_ble_eq_true rfl, Nat.le_of_ble_eq_true rfl⟩) trivial hS (fun _ h => absurd h id) rfl rfl rfl hl.1 (Nat.le_of_ble_eq_true rfl) dL_change_5 ⟨Nat.le_of_ble_eq_true rfl, Nat.le_of_ble_eq_true rfl⟩ (fun H1 locs1 hT hF hS1 => ?_)
  replace hW := Wo_frame hW (fun q h1 h2 => hF.2 q h1 id)
  clear hS hT
  have hS := hS1
  clear hS1 hF
  refine lv_istore_n (lv' := [(3, .int (nI (lowN ((v0) >>> ((nI 5) &&& 31)) 6))), (0, .ref x), (1, .int (v0)), (2, .int (more))]) hx hb dL_change_8 rfl hl (by decide) rfl (fun ls hl => ?_)
  refine lv_iload_n hx hb dL_change_9 rfl (lv_at hl 2 rfl) ?_
  refine lv_bipush (v := nI 9) hx hb dL_change_10 (by decide) ?_
  refine lv_ishr hx hb dL_change_12 ?_
  refine lv_bipush (v := nI 6) hx hb dL_change_13 (by decide) ?_
  refine mo_callS (A1 := fun _ => False) (As := [.int ((v0) >>> ((nI 9) &&& 31)), .int (nI 6)]) (rest := []) (st1 := [.int (nI (lowN ((v0) >>> ((nI 9) &&& 31)) 6))]) (Q := fun _ => True) C0 (ctL_low (v := (v0) >>> ((nI 9) &&& 31)) (n := 6) (by decide) (by decide) (Pp := fun _ => True)) (va_cwS 2 C0.1.2.2.2.2 gL_change_L_low rfl rfl rfl (by decide +kernel) ⟨Nat.le_of_ble_eq_true rfl, Nat.le_of_ble_eq_true rfl⟩) trivial hS (fun _ h => absurd h id) rfl rfl rfl hl.1 (Nat.le_of_ble_eq_true rfl) dL_change_15 ⟨Nat.le_of_ble_eq_true rfl, Nat.le_of_ble_eq_true rfl⟩ (fun H1 locs1 hT hF hS1 => ?_)
  replace hW := Wo_frame hW (fun q h1 h2 => hF.2 q h1 id)
  clear hS hT
  have hS := hS1
  clear hS1 hF
  refine lv_istore (lv' := [(4, .int (nI (lowN ((v0) >>> ((nI 9) &&& 31)) 6))), (3, .int (nI (lowN ((v0) >>> ((nI 5) &&& 31)) 6))), (0, .ref x), (1, .int (v0)), (2, .int (more))]) hx hb dL_change_18 hl (by decide) rfl (fun ls hl => ?_)
  refine lv_iload_n hx hb dL_change_20 rfl (lv_at hl 3 rfl) ?_
  refine lv_bipush (v := nI 20) hx hb dL_change_21 (by decide) ?_
  refine mo_callS (A1 := fun _ => False) (As := [.int (v0), .int (nI 20)]) (rest := []) (st1 := [.int (nI (lowN v0 20))]) (Q := fun _ => True) C0 (ctL_low (v := v0) (n := 20) (by decide) (by decide) (Pp := fun _ => True)) (va_cwS 2 C0.1.2.2.2.2 gL_change_L_low rfl rfl rfl (by decide +kernel) ⟨Nat.le_of_ble_eq_true rfl, Nat.le_of_ble_eq_true rfl⟩) trivial hS (fun _ h => absurd h id) rfl rfl rfl hl.1 (Nat.le_of_ble_eq_true rfl) dL_change_23 ⟨Nat.le_of_ble_eq_true rfl, Nat.le_of_ble_eq_true rfl⟩ (fun H1 locs1 hT hF hS1 => ?_)
  replace hW := Wo_frame hW (fun q h1 h2 => hF.2 q h1 id)
  clear hS hT
  have hS := hS1
  clear hS1 hF
  refine mr_top (y := nI 13) (congrArg nI hk) ?_
  refine lv_tableIn (off := 159) (tgt := 185) hx hb dL_change_26 (by decide) (by decide) (by decide) (by decide) ?_
  refine lv_aload_n hx hb dL_change_185 rfl (lv_at hl 2 rfl) ?_
  refine mo_call (x := x) (As := []) (rest := []) (st1 := [.int ((prS (n, w, P, Q, kp) (cCommit w)).1)]) C0 (op_commit) hW (fun rm x1 x2 x3 x4 => cwV 0 C0.1.2.2.2.2 gL_change_X3_commit rfl x1 x2 (by decide +kernel) ⟨by show _ ≤ 8; omega, by show _ ≤ 190; omega⟩) hS (fun _ h => h) rfl rfl rfl hl.1 (Nat.le_of_ble_eq_true rfl) dL_change_186 ⟨Nat.le_of_ble_eq_true rfl, Nat.le_of_ble_eq_true rfl⟩ (fun H1 locs1 hW hF hS1 => ?_)
  clear hS
  have hS := hS1
  clear hS1 hF
  exact mr_iret (v := (prS (n, w, P, Q, kp) (cCommit w)).1) C0 hr hlk hQ hS rfl hW (Nat.le_refl _) (Nat.le_refl _) dL_change_189
set_option maxHeartbeats 4000000 in
set_option maxRecDepth 100000 in
theorem chg_14a {l : Launch} {D : va_G} {T : Nat → ClassId} {x n t : Nat} {w : Nat → Int32} {P Q : Nat → Nat → Int32} {kp : Nat → Bool} {v0 more : Int32} (ht : t < 1000) (hk : lowN v0 20 = 14) (hc : lowN more 3 = 0) :
    Ct l yL_change wsL_change { frames := 8, cells := 0, slots := 0, locals := 190 } 0 0 D T (Rg x) [.ref x, .int v0, .int more] (fun H => Wo D T x t (n, w, P, Q, kp) H) (some (.int (chR t (n, w, P, Q, kp) v0 more).1)) (fun H => Wo D T x (t + 1) (chR t (n, w, P, Q, kp) v0 more).2 H) := by
  refine Ct.ofW (cc := cL_change) (maxL := 5) (ret := (some .int)) (by decide) rfl (Nat.le_of_ble_eq_true rfl) ?_
  intro p e s m args below meth c ls R Qq hR hQ C0 hr hlk hname hW hl
  have hS : va_S (Rg x) s.heap s.heap [] := va_S.rf
  have hl : lv_has ls 5 [(0, .ref x), (1, .int v0), (2, .int more)] := hl
  have hx := C0.1.1
  have hb := C0.1.2.1
  subst hR
  have eK : chR t (n, w, P, Q, kp) v0 more = prS (n, w, P, Q, kp) (cRevert w (nI (lowN ((more) >>> ((nI 2) &&& 31)) 4))) := by
    unfold chR
    rw [hk]
    exact if_pos hc
  rw [eK] at hQ
  refine lv_iload_n hx hb dL_change_0 rfl (lv_at hl 1 rfl) ?_
  refine lv_iconst (v := nI 5) hx hb dL_change_1 (by decide) ?_
  refine lv_ishr hx hb dL_change_2 ?_
  refine lv_bipush (v := nI 6) hx hb dL_change_3 (by decide) ?_
  refine mo_callS (A1 := fun _ => False) (As := [.int ((v0) >>> ((nI 5) &&& 31)), .int (nI 6)]) (rest := []) (st1 := [.int (nI (lowN ((v0) >>> ((nI 5) &&& 31)) 6))]) (Q := fun _ => True) C0 (ctL_low (v := (v0) >>> ((nI 5) &&& 31)) (n := 6) (by decide) (by decide) (Pp := fun _ => True)) (va_cwS 2 C0.1.2.2.2.2 gL_change_L_low rfl rfl rfl (by decide +kernel) ⟨Nat.le_of_ble_eq_true rfl, Nat.le_of_ble_eq_true rfl⟩) trivial hS (fun _ h => absurd h id) rfl rfl rfl hl.1 (Nat.le_of_ble_eq_true rfl) dL_change_5 ⟨Nat.le_of_ble_eq_true rfl, Nat.le_of_ble_eq_true rfl⟩ (fun H1 locs1 hT hF hS1 => ?_)
  replace hW := Wo_frame hW (fun q h1 h2 => hF.2 q h1 id)
  clear hS hT
  have hS := hS1
  clear hS1 hF
  refine lv_istore_n (lv' := [(3, .int (nI (lowN ((v0) >>> ((nI 5) &&& 31)) 6))), (0, .ref x), (1, .int (v0)), (2, .int (more))]) hx hb dL_change_8 rfl hl (by decide) rfl (fun ls hl => ?_)
  refine lv_iload_n hx hb dL_change_9 rfl (lv_at hl 2 rfl) ?_
  refine lv_bipush (v := nI 9) hx hb dL_change_10 (by decide) ?_
  refine lv_ishr hx hb dL_change_12 ?_
  refine lv_bipush (v := nI 6) hx hb dL_change_13 (by decide) ?_
  refine mo_callS (A1 := fun _ => False) (As := [.int ((v0) >>> ((nI 9) &&& 31)), .int (nI 6)]) (rest := []) (st1 := [.int (nI (lowN ((v0) >>> ((nI 9) &&& 31)) 6))]) (Q := fun _ => True) C0 (ctL_low (v := (v0) >>> ((nI 9) &&& 31)) (n := 6) (by decide) (by decide) (Pp := fun _ => True)) (va_cwS 2 C0.1.2.2.2.2 gL_change_L_low rfl rfl rfl (by decide +kernel) ⟨Nat.le_of_ble_eq_true rfl, Nat.le_of_ble_eq_true rfl⟩) trivial hS (fun _ h => absurd h id) rfl rfl rfl hl.1 (Nat.le_of_ble_eq_true rfl) dL_change_15 ⟨Nat.le_of_ble_eq_true rfl, Nat.le_of_ble_eq_true rfl⟩ (fun H1 locs1 hT hF hS1 => ?_)
  replace hW := Wo_frame hW (fun q h1 h2 => hF.2 q h1 id)
  clear hS hT
  have hS := hS1
  clear hS1 hF
  refine lv_istore (lv' := [(4, .int (nI (lowN ((v0) >>> ((nI 9) &&& 31)) 6))), (3, .int (nI (lowN ((v0) >>> ((nI 5) &&& 31)) 6))), (0, .ref x), (1, .int (v0)), (2, .int (more))]) hx hb dL_change_18 hl (by decide) rfl (fun ls hl => ?_)
  refine lv_iload_n hx hb dL_change_20 rfl (lv_at hl 3 rfl) ?_
  refine lv_bipush (v := nI 20) hx hb dL_change_21 (by decide) ?_
  refine mo_callS (A1 := fun _ => False) (As := [.int (v0), .int (nI 20)]) (rest := []) (st1 := [.int (nI (lowN v0 20))]) (Q := fun _ => True) C0 (ctL_low (v := v0) (n := 20) (by decide) (by decide) (Pp := fun _ => True)) (va_cwS 2 C0.1.2.2.2.2 gL_change_L_low rfl rfl rfl (by decide +kernel) ⟨Nat.le_of_ble_eq_true rfl, Nat.le_of_ble_eq_true rfl⟩) trivial hS (fun _ h => absurd h id) rfl rfl rfl hl.1 (Nat.le_of_ble_eq_true rfl) dL_change_23 ⟨Nat.le_of_ble_eq_true rfl, Nat.le_of_ble_eq_true rfl⟩ (fun H1 locs1 hT hF hS1 => ?_)
  replace hW := Wo_frame hW (fun q h1 h2 => hF.2 q h1 id)
  clear hS hT
  have hS := hS1
  clear hS1 hF
  refine mr_top (y := nI 14) (congrArg nI hk) ?_
  refine lv_tableIn (off := 164) (tgt := 190) hx hb dL_change_26 (by decide) (by decide) (by decide) (by decide) ?_
  refine lv_iload_n hx hb dL_change_190 rfl (lv_at hl 4 rfl) ?_
  refine lv_iconst (v := nI 3) hx hb dL_change_191 (by decide) ?_
  refine mo_callS (A1 := fun _ => False) (As := [.int (more), .int (nI 3)]) (rest := []) (st1 := [.int (nI (lowN more 3))]) (Q := fun _ => True) C0 (ctL_low (v := more) (n := 3) (by decide) (by decide) (Pp := fun _ => True)) (va_cwS 2 C0.1.2.2.2.2 gL_change_L_low rfl rfl rfl (by decide +kernel) ⟨Nat.le_of_ble_eq_true rfl, Nat.le_of_ble_eq_true rfl⟩) trivial hS (fun _ h => absurd h id) rfl rfl rfl hl.1 (Nat.le_of_ble_eq_true rfl) dL_change_192 ⟨Nat.le_of_ble_eq_true rfl, Nat.le_of_ble_eq_true rfl⟩ (fun H1 locs1 hT hF hS1 => ?_)
  replace hW := Wo_frame hW (fun q h1 h2 => hF.2 q h1 id)
  clear hS hT
  have hS := hS1
  clear hS1 hF
  refine mr_ne0N (x := lowN more 3) (tgt := 212) C0 dL_change_195 (by decide) (by omega) (fun c195 => absurd c195 (by omega)) (fun c195 => ?_)
  clear c195
  refine lv_aload_n hx hb dL_change_198 rfl (lv_at hl 2 rfl) ?_
  refine lv_iload_n hx hb dL_change_199 rfl (lv_at hl 4 rfl) ?_
  refine lv_iconst (v := nI 2) hx hb dL_change_200 (by decide) ?_
  refine lv_ishr hx hb dL_change_201 ?_
  refine lv_iconst (v := nI 4) hx hb dL_change_202 (by decide) ?_
  refine mo_callS (A1 := fun _ => False) (As := [.int ((more) >>> ((nI 2) &&& 31)), .int (nI 4)]) (rest := [.ref x]) (st1 := [.int (nI (lowN ((more) >>> ((nI 2) &&& 31)) 4)), .ref x]) (Q := fun _ => True) C0 (ctL_low (v := (more) >>> ((nI 2) &&& 31)) (n := 4) (by decide) (by decide) (Pp := fun _ => True)) (va_cwS 2 C0.1.2.2.2.2 gL_change_L_low rfl rfl rfl (by decide +kernel) ⟨Nat.le_of_ble_eq_true rfl, Nat.le_of_ble_eq_true rfl⟩) trivial hS (fun _ h => absurd h id) rfl rfl rfl hl.1 (Nat.le_of_ble_eq_true rfl) dL_change_203 ⟨Nat.le_of_ble_eq_true rfl, Nat.le_of_ble_eq_true rfl⟩ (fun H1 locs1 hT hF hS1 => ?_)
  replace hW := Wo_frame hW (fun q h1 h2 => hF.2 q h1 id)
  clear hS hT
  have hS := hS1
  clear hS1 hF
  refine mo_call (x := x) (As := [.int (nI (lowN ((more) >>> ((nI 2) &&& 31)) 4))]) (rest := []) (st1 := [.int ((prS (n, w, P, Q, kp) (cRevert w (nI (lowN ((more) >>> ((nI 2) &&& 31)) 4)))).1)]) C0 (op_revert _) hW (fun rm x1 x2 x3 x4 => cwV 1 C0.1.2.2.2.2 gL_change_X3_revert rfl x1 x2 (by decide +kernel) ⟨by show _ ≤ 8; omega, by show _ ≤ 190; omega⟩) hS (fun _ h => h) rfl rfl rfl hl.1 (Nat.le_of_ble_eq_true rfl) dL_change_206 ⟨Nat.le_of_ble_eq_true rfl, Nat.le_of_ble_eq_true rfl⟩ (fun H1 locs1 hW hF hS1 => ?_)
  clear hS
  have hS := hS1
  clear hS1 hF
  refine lv_goto (tgt := 216) hx hb dL_change_209 (by decide) ?_
  exact mr_iret (v := (prS (n, w, P, Q, kp) (cRevert w (nI (lowN ((more) >>> ((nI 2) &&& 31)) 4)))).1) C0 hr hlk hQ hS rfl hW (Nat.le_refl _) (Nat.le_refl _) dL_change_216
set_option maxHeartbeats 4000000 in
set_option maxRecDepth 100000 in
theorem chg_14b {l : Launch} {D : va_G} {T : Nat → ClassId} {x n t : Nat} {w : Nat → Int32} {P Q : Nat → Nat → Int32} {kp : Nat → Bool} {v0 more : Int32} (ht : t < 1000) (hk : lowN v0 20 = 14) (hc : ¬ lowN more 3 = 0) :
    Ct l yL_change wsL_change { frames := 8, cells := 0, slots := 0, locals := 190 } 0 0 D T (Rg x) [.ref x, .int v0, .int more] (fun H => Wo D T x t (n, w, P, Q, kp) H) (some (.int (chR t (n, w, P, Q, kp) v0 more).1)) (fun H => Wo D T x (t + 1) (chR t (n, w, P, Q, kp) v0 more).2 H) := by
  refine Ct.ofW (cc := cL_change) (maxL := 5) (ret := (some .int)) (by decide) rfl (Nat.le_of_ble_eq_true rfl) ?_
  intro p e s m args below meth c ls R Qq hR hQ C0 hr hlk hname hW hl
  have hS : va_S (Rg x) s.heap s.heap [] := va_S.rf
  have hl : lv_has ls 5 [(0, .ref x), (1, .int v0), (2, .int more)] := hl
  have hx := C0.1.1
  have hb := C0.1.2.1
  subst hR
  have eK : chR t (n, w, P, Q, kp) v0 more = prS (n, w, P, Q, kp) (cCommit w) := by
    unfold chR
    rw [hk]
    exact if_neg hc
  rw [eK] at hQ
  refine lv_iload_n hx hb dL_change_0 rfl (lv_at hl 1 rfl) ?_
  refine lv_iconst (v := nI 5) hx hb dL_change_1 (by decide) ?_
  refine lv_ishr hx hb dL_change_2 ?_
  refine lv_bipush (v := nI 6) hx hb dL_change_3 (by decide) ?_
  refine mo_callS (A1 := fun _ => False) (As := [.int ((v0) >>> ((nI 5) &&& 31)), .int (nI 6)]) (rest := []) (st1 := [.int (nI (lowN ((v0) >>> ((nI 5) &&& 31)) 6))]) (Q := fun _ => True) C0 (ctL_low (v := (v0) >>> ((nI 5) &&& 31)) (n := 6) (by decide) (by decide) (Pp := fun _ => True)) (va_cwS 2 C0.1.2.2.2.2 gL_change_L_low rfl rfl rfl (by decide +kernel) ⟨Nat.le_of_ble_eq_true rfl, Nat.le_of_ble_eq_true rfl⟩) trivial hS (fun _ h => absurd h id) rfl rfl rfl hl.1 (Nat.le_of_ble_eq_true rfl) dL_change_5 ⟨Nat.le_of_ble_eq_true rfl, Nat.le_of_ble_eq_true rfl⟩ (fun H1 locs1 hT hF hS1 => ?_)
  replace hW := Wo_frame hW (fun q h1 h2 => hF.2 q h1 id)
  clear hS hT
  have hS := hS1
  clear hS1 hF
  refine lv_istore_n (lv' := [(3, .int (nI (lowN ((v0) >>> ((nI 5) &&& 31)) 6))), (0, .ref x), (1, .int (v0)), (2, .int (more))]) hx hb dL_change_8 rfl hl (by decide) rfl (fun ls hl => ?_)
  refine lv_iload_n hx hb dL_change_9 rfl (lv_at hl 2 rfl) ?_
  refine lv_bipush (v := nI 9) hx hb dL_change_10 (by decide) ?_
  refine lv_ishr hx hb dL_change_12 ?_
  refine lv_bipush (v := nI 6) hx hb dL_change_13 (by decide) ?_
  refine mo_callS (A1 := fun _ => False) (As := [.int ((v0) >>> ((nI 9) &&& 31)), .int (nI 6)]) (rest := []) (st1 := [.int (nI (lowN ((v0) >>> ((nI 9) &&& 31)) 6))]) (Q := fun _ => True) C0 (ctL_low (v := (v0) >>> ((nI 9) &&& 31)) (n := 6) (by decide) (by decide) (Pp := fun _ => True)) (va_cwS 2 C0.1.2.2.2.2 gL_change_L_low rfl rfl rfl (by decide +kernel) ⟨Nat.le_of_ble_eq_true rfl, Nat.le_of_ble_eq_true rfl⟩) trivial hS (fun _ h => absurd h id) rfl rfl rfl hl.1 (Nat.le_of_ble_eq_true rfl) dL_change_15 ⟨Nat.le_of_ble_eq_true rfl, Nat.le_of_ble_eq_true rfl⟩ (fun H1 locs1 hT hF hS1 => ?_)
  replace hW := Wo_frame hW (fun q h1 h2 => hF.2 q h1 id)
  clear hS hT
  have hS := hS1
  clear hS1 hF
  refine lv_istore (lv' := [(4, .int (nI (lowN ((v0) >>> ((nI 9) &&& 31)) 6))), (3, .int (nI (lowN ((v0) >>> ((nI 5) &&& 31)) 6))), (0, .ref x), (1, .int (v0)), (2, .int (more))]) hx hb dL_change_18 hl (by decide) rfl (fun ls hl => ?_)
  refine lv_iload_n hx hb dL_change_20 rfl (lv_at hl 3 rfl) ?_
  refine lv_bipush (v := nI 20) hx hb dL_change_21 (by decide) ?_
  refine mo_callS (A1 := fun _ => False) (As := [.int (v0), .int (nI 20)]) (rest := []) (st1 := [.int (nI (lowN v0 20))]) (Q := fun _ => True) C0 (ctL_low (v := v0) (n := 20) (by decide) (by decide) (Pp := fun _ => True)) (va_cwS 2 C0.1.2.2.2.2 gL_change_L_low rfl rfl rfl (by decide +kernel) ⟨Nat.le_of_ble_eq_true rfl, Nat.le_of_ble_eq_true rfl⟩) trivial hS (fun _ h => absurd h id) rfl rfl rfl hl.1 (Nat.le_of_ble_eq_true rfl) dL_change_23 ⟨Nat.le_of_ble_eq_true rfl, Nat.le_of_ble_eq_true rfl⟩ (fun H1 locs1 hT hF hS1 => ?_)
  replace hW := Wo_frame hW (fun q h1 h2 => hF.2 q h1 id)
  clear hS hT
  have hS := hS1
  clear hS1 hF
  refine mr_top (y := nI 14) (congrArg nI hk) ?_
  refine lv_tableIn (off := 164) (tgt := 190) hx hb dL_change_26 (by decide) (by decide) (by decide) (by decide) ?_
  refine lv_iload_n hx hb dL_change_190 rfl (lv_at hl 4 rfl) ?_
  refine lv_iconst (v := nI 3) hx hb dL_change_191 (by decide) ?_
  refine mo_callS (A1 := fun _ => False) (As := [.int (more), .int (nI 3)]) (rest := []) (st1 := [.int (nI (lowN more 3))]) (Q := fun _ => True) C0 (ctL_low (v := more) (n := 3) (by decide) (by decide) (Pp := fun _ => True)) (va_cwS 2 C0.1.2.2.2.2 gL_change_L_low rfl rfl rfl (by decide +kernel) ⟨Nat.le_of_ble_eq_true rfl, Nat.le_of_ble_eq_true rfl⟩) trivial hS (fun _ h => absurd h id) rfl rfl rfl hl.1 (Nat.le_of_ble_eq_true rfl) dL_change_192 ⟨Nat.le_of_ble_eq_true rfl, Nat.le_of_ble_eq_true rfl⟩ (fun H1 locs1 hT hF hS1 => ?_)
  replace hW := Wo_frame hW (fun q h1 h2 => hF.2 q h1 id)
  clear hS hT
  have hS := hS1
  clear hS1 hF
  refine mr_ne0N (x := lowN more 3) (tgt := 212) C0 dL_change_195 (by decide) (by have := lowN_lt more (show 0 < 3 by decide); omega) (fun c195 => ?_) (fun c195 => absurd c195 hc)
  clear c195
  refine lv_aload_n hx hb dL_change_212 rfl (lv_at hl 2 rfl) ?_
  refine mo_call (x := x) (As := []) (rest := []) (st1 := [.int ((prS (n, w, P, Q, kp) (cCommit w)).1)]) C0 (op_commit) hW (fun rm x1 x2 x3 x4 => cwV 0 C0.1.2.2.2.2 gL_change_X3_commit rfl x1 x2 (by decide +kernel) ⟨by show _ ≤ 8; omega, by show _ ≤ 190; omega⟩) hS (fun _ h => h) rfl rfl rfl hl.1 (Nat.le_of_ble_eq_true rfl) dL_change_213 ⟨Nat.le_of_ble_eq_true rfl, Nat.le_of_ble_eq_true rfl⟩ (fun H1 locs1 hW hF hS1 => ?_)
  clear hS
  have hS := hS1
  clear hS1 hF
  exact mr_iret (v := (prS (n, w, P, Q, kp) (cCommit w)).1) C0 hr hlk hQ hS rfl hW (Nat.le_refl _) (Nat.le_refl _) dL_change_216
set_option maxHeartbeats 4000000 in
set_option maxRecDepth 100000 in
theorem chg_15 {l : Launch} {D : va_G} {T : Nat → ClassId} {x n t : Nat} {w : Nat → Int32} {P Q : Nat → Nat → Int32} {kp : Nat → Bool} {v0 more : Int32} (ht : t < 1000) (hk : lowN v0 20 = 15) :
    Ct l yL_change wsL_change { frames := 8, cells := 0, slots := 0, locals := 190 } 0 0 D T (Rg x) [.ref x, .int v0, .int more] (fun H => Wo D T x t (n, w, P, Q, kp) H) (some (.int (chR t (n, w, P, Q, kp) v0 more).1)) (fun H => Wo D T x (t + 1) (chR t (n, w, P, Q, kp) v0 more).2 H) := by
  refine Ct.ofW (cc := cL_change) (maxL := 5) (ret := (some .int)) (by decide) rfl (Nat.le_of_ble_eq_true rfl) ?_
  intro p e s m args below meth c ls R Qq hR hQ C0 hr hlk hname hW hl
  have hS : va_S (Rg x) s.heap s.heap [] := va_S.rf
  have hl : lv_has ls 5 [(0, .ref x), (1, .int v0), (2, .int more)] := hl
  have hx := C0.1.1
  have hb := C0.1.2.1
  subst hR
  have eK : chR t (n, w, P, Q, kp) v0 more = prS (n, w, P, Q, kp) (cSend w) := by
    unfold chR
    rw [hk]
    rfl
  rw [eK] at hQ
  refine lv_iload_n hx hb dL_change_0 rfl (lv_at hl 1 rfl) ?_
  refine lv_iconst (v := nI 5) hx hb dL_change_1 (by decide) ?_
  refine lv_ishr hx hb dL_change_2 ?_
  refine lv_bipush (v := nI 6) hx hb dL_change_3 (by decide) ?_
  refine mo_callS (A1 := fun _ => False) (As := [.int ((v0) >>> ((nI 5) &&& 31)), .int (nI 6)]) (rest := []) (st1 := [.int (nI (lowN ((v0) >>> ((nI 5) &&& 31)) 6))]) (Q := fun _ => True) C0 (ctL_low (v := (v0) >>> ((nI 5) &&& 31)) (n := 6) (by decide) (by decide) (Pp := fun _ => True)) (va_cwS 2 C0.1.2.2.2.2 gL_change_L_low rfl rfl rfl (by decide +kernel) ⟨Nat.le_of_ble_eq_true rfl, Nat.le_of_ble_eq_true rfl⟩) trivial hS (fun _ h => absurd h id) rfl rfl rfl hl.1 (Nat.le_of_ble_eq_true rfl) dL_change_5 ⟨Nat.le_of_ble_eq_true rfl, Nat.le_of_ble_eq_true rfl⟩ (fun H1 locs1 hT hF hS1 => ?_)
  replace hW := Wo_frame hW (fun q h1 h2 => hF.2 q h1 id)
  clear hS hT
  have hS := hS1
  clear hS1 hF
  refine lv_istore_n (lv' := [(3, .int (nI (lowN ((v0) >>> ((nI 5) &&& 31)) 6))), (0, .ref x), (1, .int (v0)), (2, .int (more))]) hx hb dL_change_8 rfl hl (by decide) rfl (fun ls hl => ?_)
  refine lv_iload_n hx hb dL_change_9 rfl (lv_at hl 2 rfl) ?_
  refine lv_bipush (v := nI 9) hx hb dL_change_10 (by decide) ?_
  refine lv_ishr hx hb dL_change_12 ?_
  refine lv_bipush (v := nI 6) hx hb dL_change_13 (by decide) ?_
  refine mo_callS (A1 := fun _ => False) (As := [.int ((v0) >>> ((nI 9) &&& 31)), .int (nI 6)]) (rest := []) (st1 := [.int (nI (lowN ((v0) >>> ((nI 9) &&& 31)) 6))]) (Q := fun _ => True) C0 (ctL_low (v := (v0) >>> ((nI 9) &&& 31)) (n := 6) (by decide) (by decide) (Pp := fun _ => True)) (va_cwS 2 C0.1.2.2.2.2 gL_change_L_low rfl rfl rfl (by decide +kernel) ⟨Nat.le_of_ble_eq_true rfl, Nat.le_of_ble_eq_true rfl⟩) trivial hS (fun _ h => absurd h id) rfl rfl rfl hl.1 (Nat.le_of_ble_eq_true rfl) dL_change_15 ⟨Nat.le_of_ble_eq_true rfl, Nat.le_of_ble_eq_true rfl⟩ (fun H1 locs1 hT hF hS1 => ?_)
  replace hW := Wo_frame hW (fun q h1 h2 => hF.2 q h1 id)
  clear hS hT
  have hS := hS1
  clear hS1 hF
  refine lv_istore (lv' := [(4, .int (nI (lowN ((v0) >>> ((nI 9) &&& 31)) 6))), (3, .int (nI (lowN ((v0) >>> ((nI 5) &&& 31)) 6))), (0, .ref x), (1, .int (v0)), (2, .int (more))]) hx hb dL_change_18 hl (by decide) rfl (fun ls hl => ?_)
  refine lv_iload_n hx hb dL_change_20 rfl (lv_at hl 3 rfl) ?_
  refine lv_bipush (v := nI 20) hx hb dL_change_21 (by decide) ?_
  refine mo_callS (A1 := fun _ => False) (As := [.int (v0), .int (nI 20)]) (rest := []) (st1 := [.int (nI (lowN v0 20))]) (Q := fun _ => True) C0 (ctL_low (v := v0) (n := 20) (by decide) (by decide) (Pp := fun _ => True)) (va_cwS 2 C0.1.2.2.2.2 gL_change_L_low rfl rfl rfl (by decide +kernel) ⟨Nat.le_of_ble_eq_true rfl, Nat.le_of_ble_eq_true rfl⟩) trivial hS (fun _ h => absurd h id) rfl rfl rfl hl.1 (Nat.le_of_ble_eq_true rfl) dL_change_23 ⟨Nat.le_of_ble_eq_true rfl, Nat.le_of_ble_eq_true rfl⟩ (fun H1 locs1 hT hF hS1 => ?_)
  replace hW := Wo_frame hW (fun q h1 h2 => hF.2 q h1 id)
  clear hS hT
  have hS := hS1
  clear hS1 hF
  refine mr_top (y := nI 15) (congrArg nI hk) ?_
  refine lv_tableIn (off := 191) (tgt := 217) hx hb dL_change_26 (by decide) (by decide) (by decide) (by decide) ?_
  refine lv_aload_n hx hb dL_change_217 rfl (lv_at hl 2 rfl) ?_
  refine mo_call (x := x) (As := []) (rest := []) (st1 := [.int ((prS (n, w, P, Q, kp) (cSend w)).1)]) C0 (op_send) hW (fun rm x1 x2 x3 x4 => cwV 0 C0.1.2.2.2.2 gL_change_X3_send rfl x1 x2 (by decide +kernel) ⟨by show _ ≤ 8; omega, by show _ ≤ 190; omega⟩) hS (fun _ h => h) rfl rfl rfl hl.1 (Nat.le_of_ble_eq_true rfl) dL_change_218 ⟨Nat.le_of_ble_eq_true rfl, Nat.le_of_ble_eq_true rfl⟩ (fun H1 locs1 hW hF hS1 => ?_)
  clear hS
  have hS := hS1
  clear hS1 hF
  exact mr_iret (v := (prS (n, w, P, Q, kp) (cSend w)).1) C0 hr hlk hQ hS rfl hW (Nat.le_refl _) (Nat.le_refl _) dL_change_221
set_option maxHeartbeats 4000000 in
set_option maxRecDepth 100000 in
theorem chg_16 {l : Launch} {D : va_G} {T : Nat → ClassId} {x n t : Nat} {w : Nat → Int32} {P Q : Nat → Nat → Int32} {kp : Nat → Bool} {v0 more : Int32} (ht : t < 1000) (hk : lowN v0 20 = 16) :
    Ct l yL_change wsL_change { frames := 8, cells := 0, slots := 0, locals := 190 } 0 0 D T (Rg x) [.ref x, .int v0, .int more] (fun H => Wo D T x t (n, w, P, Q, kp) H) (some (.int (chR t (n, w, P, Q, kp) v0 more).1)) (fun H => Wo D T x (t + 1) (chR t (n, w, P, Q, kp) v0 more).2 H) := by
  refine Ct.ofW (cc := cL_change) (maxL := 5) (ret := (some .int)) (by decide) rfl (Nat.le_of_ble_eq_true rfl) ?_
  intro p e s m args below meth c ls R Qq hR hQ C0 hr hlk hname hW hl
  have hS : va_S (Rg x) s.heap s.heap [] := va_S.rf
  have hl : lv_has ls 5 [(0, .ref x), (1, .int v0), (2, .int more)] := hl
  have hx := C0.1.1
  have hb := C0.1.2.1
  subst hR
  have eK : chR t (n, w, P, Q, kp) v0 more = prS (n, w, P, Q, kp) (cSend w) := by
    unfold chR
    rw [hk]
    rfl
  rw [eK] at hQ
  refine lv_iload_n hx hb dL_change_0 rfl (lv_at hl 1 rfl) ?_
  refine lv_iconst (v := nI 5) hx hb dL_change_1 (by decide) ?_
  refine lv_ishr hx hb dL_change_2 ?_
  refine lv_bipush (v := nI 6) hx hb dL_change_3 (by decide) ?_
  refine mo_callS (A1 := fun _ => False) (As := [.int ((v0) >>> ((nI 5) &&& 31)), .int (nI 6)]) (rest := []) (st1 := [.int (nI (lowN ((v0) >>> ((nI 5) &&& 31)) 6))]) (Q := fun _ => True) C0 (ctL_low (v := (v0) >>> ((nI 5) &&& 31)) (n := 6) (by decide) (by decide) (Pp := fun _ => True)) (va_cwS 2 C0.1.2.2.2.2 gL_change_L_low rfl rfl rfl (by decide +kernel) ⟨Nat.le_of_ble_eq_true rfl, Nat.le_of_ble_eq_true rfl⟩) trivial hS (fun _ h => absurd h id) rfl rfl rfl hl.1 (Nat.le_of_ble_eq_true rfl) dL_change_5 ⟨Nat.le_of_ble_eq_true rfl, Nat.le_of_ble_eq_true rfl⟩ (fun H1 locs1 hT hF hS1 => ?_)
  replace hW := Wo_frame hW (fun q h1 h2 => hF.2 q h1 id)
  clear hS hT
  have hS := hS1
  clear hS1 hF
  refine lv_istore_n (lv' := [(3, .int (nI (lowN ((v0) >>> ((nI 5) &&& 31)) 6))), (0, .ref x), (1, .int (v0)), (2, .int (more))]) hx hb dL_change_8 rfl hl (by decide) rfl (fun ls hl => ?_)
  refine lv_iload_n hx hb dL_change_9 rfl (lv_at hl 2 rfl) ?_
  refine lv_bipush (v := nI 9) hx hb dL_change_10 (by decide) ?_
  refine lv_ishr hx hb dL_change_12 ?_
  refine lv_bipush (v := nI 6) hx hb dL_change_13 (by decide) ?_
  refine mo_callS (A1 := fun _ => False) (As := [.int ((v0) >>> ((nI 9) &&& 31)), .int (nI 6)]) (rest := []) (st1 := [.int (nI (lowN ((v0) >>> ((nI 9) &&& 31)) 6))]) (Q := fun _ => True) C0 (ctL_low (v := (v0) >>> ((nI 9) &&& 31)) (n := 6) (by decide) (by decide) (Pp := fun _ => True)) (va_cwS 2 C0.1.2.2.2.2 gL_change_L_low rfl rfl rfl (by decide +kernel) ⟨Nat.le_of_ble_eq_true rfl, Nat.le_of_ble_eq_true rfl⟩) trivial hS (fun _ h => absurd h id) rfl rfl rfl hl.1 (Nat.le_of_ble_eq_true rfl) dL_change_15 ⟨Nat.le_of_ble_eq_true rfl, Nat.le_of_ble_eq_true rfl⟩ (fun H1 locs1 hT hF hS1 => ?_)
  replace hW := Wo_frame hW (fun q h1 h2 => hF.2 q h1 id)
  clear hS hT
  have hS := hS1
  clear hS1 hF
  refine lv_istore (lv' := [(4, .int (nI (lowN ((v0) >>> ((nI 9) &&& 31)) 6))), (3, .int (nI (lowN ((v0) >>> ((nI 5) &&& 31)) 6))), (0, .ref x), (1, .int (v0)), (2, .int (more))]) hx hb dL_change_18 hl (by decide) rfl (fun ls hl => ?_)
  refine lv_iload_n hx hb dL_change_20 rfl (lv_at hl 3 rfl) ?_
  refine lv_bipush (v := nI 20) hx hb dL_change_21 (by decide) ?_
  refine mo_callS (A1 := fun _ => False) (As := [.int (v0), .int (nI 20)]) (rest := []) (st1 := [.int (nI (lowN v0 20))]) (Q := fun _ => True) C0 (ctL_low (v := v0) (n := 20) (by decide) (by decide) (Pp := fun _ => True)) (va_cwS 2 C0.1.2.2.2.2 gL_change_L_low rfl rfl rfl (by decide +kernel) ⟨Nat.le_of_ble_eq_true rfl, Nat.le_of_ble_eq_true rfl⟩) trivial hS (fun _ h => absurd h id) rfl rfl rfl hl.1 (Nat.le_of_ble_eq_true rfl) dL_change_23 ⟨Nat.le_of_ble_eq_true rfl, Nat.le_of_ble_eq_true rfl⟩ (fun H1 locs1 hT hF hS1 => ?_)
  replace hW := Wo_frame hW (fun q h1 h2 => hF.2 q h1 id)
  clear hS hT
  have hS := hS1
  clear hS1 hF
  refine mr_top (y := nI 16) (congrArg nI hk) ?_
  refine lv_tableIn (off := 191) (tgt := 217) hx hb dL_change_26 (by decide) (by decide) (by decide) (by decide) ?_
  refine lv_aload_n hx hb dL_change_217 rfl (lv_at hl 2 rfl) ?_
  refine mo_call (x := x) (As := []) (rest := []) (st1 := [.int ((prS (n, w, P, Q, kp) (cSend w)).1)]) C0 (op_send) hW (fun rm x1 x2 x3 x4 => cwV 0 C0.1.2.2.2.2 gL_change_X3_send rfl x1 x2 (by decide +kernel) ⟨by show _ ≤ 8; omega, by show _ ≤ 190; omega⟩) hS (fun _ h => h) rfl rfl rfl hl.1 (Nat.le_of_ble_eq_true rfl) dL_change_218 ⟨Nat.le_of_ble_eq_true rfl, Nat.le_of_ble_eq_true rfl⟩ (fun H1 locs1 hW hF hS1 => ?_)
  clear hS
  have hS := hS1
  clear hS1 hF
  exact mr_iret (v := (prS (n, w, P, Q, kp) (cSend w)).1) C0 hr hlk hQ hS rfl hW (Nat.le_refl _) (Nat.le_refl _) dL_change_221
set_option maxHeartbeats 4000000 in
set_option maxRecDepth 100000 in
theorem chg_17 {l : Launch} {D : va_G} {T : Nat → ClassId} {x n t : Nat} {w : Nat → Int32} {P Q : Nat → Nat → Int32} {kp : Nat → Bool} {v0 more : Int32} (ht : t < 1000) (hk : lowN v0 20 = 17) :
    Ct l yL_change wsL_change { frames := 8, cells := 0, slots := 0, locals := 190 } 0 0 D T (Rg x) [.ref x, .int v0, .int more] (fun H => Wo D T x t (n, w, P, Q, kp) H) (some (.int (chR t (n, w, P, Q, kp) v0 more).1)) (fun H => Wo D T x (t + 1) (chR t (n, w, P, Q, kp) v0 more).2 H) := by
  refine Ct.ofW (cc := cL_change) (maxL := 5) (ret := (some .int)) (by decide) rfl (Nat.le_of_ble_eq_true rfl) ?_
  intro p e s m args below meth c ls R Qq hR hQ C0 hr hlk hname hW hl
  have hS : va_S (Rg x) s.heap s.heap [] := va_S.rf
  have hl : lv_has ls 5 [(0, .ref x), (1, .int v0), (2, .int more)] := hl
  have hx := C0.1.1
  have hb := C0.1.2.1
  subst hR
  have eK : chR t (n, w, P, Q, kp) v0 more = prS (n, w, P, Q, kp) (cSome w t (nI (lowN more 150))) := by
    unfold chR
    rw [hk]
    rfl
  rw [eK] at hQ
  refine lv_iload_n hx hb dL_change_0 rfl (lv_at hl 1 rfl) ?_
  refine lv_iconst (v := nI 5) hx hb dL_change_1 (by decide) ?_
  refine lv_ishr hx hb dL_change_2 ?_
  refine lv_bipush (v := nI 6) hx hb dL_change_3 (by decide) ?_
  refine mo_callS (A1 := fun _ => False) (As := [.int ((v0) >>> ((nI 5) &&& 31)), .int (nI 6)]) (rest := []) (st1 := [.int (nI (lowN ((v0) >>> ((nI 5) &&& 31)) 6))]) (Q := fun _ => True) C0 (ctL_low (v := (v0) >>> ((nI 5) &&& 31)) (n := 6) (by decide) (by decide) (Pp := fun _ => True)) (va_cwS 2 C0.1.2.2.2.2 gL_change_L_low rfl rfl rfl (by decide +kernel) ⟨Nat.le_of_ble_eq_true rfl, Nat.le_of_ble_eq_true rfl⟩) trivial hS (fun _ h => absurd h id) rfl rfl rfl hl.1 (Nat.le_of_ble_eq_true rfl) dL_change_5 ⟨Nat.le_of_ble_eq_true rfl, Nat.le_of_ble_eq_true rfl⟩ (fun H1 locs1 hT hF hS1 => ?_)
  replace hW := Wo_frame hW (fun q h1 h2 => hF.2 q h1 id)
  clear hS hT
  have hS := hS1
  clear hS1 hF
  refine lv_istore_n (lv' := [(3, .int (nI (lowN ((v0) >>> ((nI 5) &&& 31)) 6))), (0, .ref x), (1, .int (v0)), (2, .int (more))]) hx hb dL_change_8 rfl hl (by decide) rfl (fun ls hl => ?_)
  refine lv_iload_n hx hb dL_change_9 rfl (lv_at hl 2 rfl) ?_
  refine lv_bipush (v := nI 9) hx hb dL_change_10 (by decide) ?_
  refine lv_ishr hx hb dL_change_12 ?_
  refine lv_bipush (v := nI 6) hx hb dL_change_13 (by decide) ?_
  refine mo_callS (A1 := fun _ => False) (As := [.int ((v0) >>> ((nI 9) &&& 31)), .int (nI 6)]) (rest := []) (st1 := [.int (nI (lowN ((v0) >>> ((nI 9) &&& 31)) 6))]) (Q := fun _ => True) C0 (ctL_low (v := (v0) >>> ((nI 9) &&& 31)) (n := 6) (by decide) (by decide) (Pp := fun _ => True)) (va_cwS 2 C0.1.2.2.2.2 gL_change_L_low rfl rfl rfl (by decide +kernel) ⟨Nat.le_of_ble_eq_true rfl, Nat.le_of_ble_eq_true rfl⟩) trivial hS (fun _ h => absurd h id) rfl rfl rfl hl.1 (Nat.le_of_ble_eq_true rfl) dL_change_15 ⟨Nat.le_of_ble_eq_true rfl, Nat.le_of_ble_eq_true rfl⟩ (fun H1 locs1 hT hF hS1 => ?_)
  replace hW := Wo_frame hW (fun q h1 h2 => hF.2 q h1 id)
  clear hS hT
  have hS := hS1
  clear hS1 hF
  refine lv_istore (lv' := [(4, .int (nI (lowN ((v0) >>> ((nI 9) &&& 31)) 6))), (3, .int (nI (lowN ((v0) >>> ((nI 5) &&& 31)) 6))), (0, .ref x), (1, .int (v0)), (2, .int (more))]) hx hb dL_change_18 hl (by decide) rfl (fun ls hl => ?_)
  refine lv_iload_n hx hb dL_change_20 rfl (lv_at hl 3 rfl) ?_
  refine lv_bipush (v := nI 20) hx hb dL_change_21 (by decide) ?_
  refine mo_callS (A1 := fun _ => False) (As := [.int (v0), .int (nI 20)]) (rest := []) (st1 := [.int (nI (lowN v0 20))]) (Q := fun _ => True) C0 (ctL_low (v := v0) (n := 20) (by decide) (by decide) (Pp := fun _ => True)) (va_cwS 2 C0.1.2.2.2.2 gL_change_L_low rfl rfl rfl (by decide +kernel) ⟨Nat.le_of_ble_eq_true rfl, Nat.le_of_ble_eq_true rfl⟩) trivial hS (fun _ h => absurd h id) rfl rfl rfl hl.1 (Nat.le_of_ble_eq_true rfl) dL_change_23 ⟨Nat.le_of_ble_eq_true rfl, Nat.le_of_ble_eq_true rfl⟩ (fun H1 locs1 hT hF hS1 => ?_)
  replace hW := Wo_frame hW (fun q h1 h2 => hF.2 q h1 id)
  clear hS hT
  have hS := hS1
  clear hS1 hF
  refine mr_top (y := nI 17) (congrArg nI hk) ?_
  refine lv_tableIn (off := 196) (tgt := 222) hx hb dL_change_26 (by decide) (by decide) (by decide) (by decide) ?_
  refine lv_aload_n hx hb dL_change_222 rfl (lv_at hl 2 rfl) ?_
  refine lv_iload_n hx hb dL_change_223 rfl (lv_at hl 4 rfl) ?_
  refine lv_sipush (v := nI 150) hx hb dL_change_224 (by decide) ?_
  refine mo_callS (A1 := fun _ => False) (As := [.int (more), .int (nI 150)]) (rest := [.ref x]) (st1 := [.int (nI (lowN more 150)), .ref x]) (Q := fun _ => True) C0 (ctL_low (v := more) (n := 150) (by decide) (by decide) (Pp := fun _ => True)) (va_cwS 2 C0.1.2.2.2.2 gL_change_L_low rfl rfl rfl (by decide +kernel) ⟨Nat.le_of_ble_eq_true rfl, Nat.le_of_ble_eq_true rfl⟩) trivial hS (fun _ h => absurd h id) rfl rfl rfl hl.1 (Nat.le_of_ble_eq_true rfl) dL_change_227 ⟨Nat.le_of_ble_eq_true rfl, Nat.le_of_ble_eq_true rfl⟩ (fun H1 locs1 hT hF hS1 => ?_)
  replace hW := Wo_frame hW (fun q h1 h2 => hF.2 q h1 id)
  clear hS hT
  have hS := hS1
  clear hS1 hF
  refine mo_call (x := x) (As := [.int (nI (lowN more 150))]) (rest := []) (st1 := [.int ((prS (n, w, P, Q, kp) (cSome w t (nI (lowN more 150)))).1)]) C0 (op_sendSome _) hW (fun rm x1 x2 x3 x4 => cwV 1 C0.1.2.2.2.2 gL_change_X3_sendSome rfl x1 x2 (by decide +kernel) ⟨by show _ ≤ 8; omega, by show _ ≤ 190; omega⟩) hS (fun _ h => h) rfl rfl rfl hl.1 (Nat.le_of_ble_eq_true rfl) dL_change_230 ⟨Nat.le_of_ble_eq_true rfl, Nat.le_of_ble_eq_true rfl⟩ (fun H1 locs1 hW hF hS1 => ?_)
  clear hS
  have hS := hS1
  clear hS1 hF
  exact mr_iret (v := (prS (n, w, P, Q, kp) (cSome w t (nI (lowN more 150)))).1) C0 hr hlk hQ hS rfl hW (Nat.le_refl _) (Nat.le_refl _) dL_change_233
set_option maxHeartbeats 4000000 in
set_option maxRecDepth 100000 in
theorem chg_18a {l : Launch} {D : va_G} {T : Nat → ClassId} {x n t : Nat} {w : Nat → Int32} {P Q : Nat → Nat → Int32} {kp : Nat → Bool} {v0 more : Int32} (ht : t < 1000) (hk : lowN v0 20 = 18) (hc : lowN more 2 = 0) :
    Ct l yL_change wsL_change { frames := 8, cells := 0, slots := 0, locals := 190 } 0 0 D T (Rg x) [.ref x, .int v0, .int more] (fun H => Wo D T x t (n, w, P, Q, kp) H) (some (.int (chR t (n, w, P, Q, kp) v0 more).1)) (fun H => Wo D T x (t + 1) (chR t (n, w, P, Q, kp) v0 more).2 H) := by
  refine Ct.ofW (cc := cL_change) (maxL := 5) (ret := (some .int)) (by decide) rfl (Nat.le_of_ble_eq_true rfl) ?_
  intro p e s m args below meth c ls R Qq hR hQ C0 hr hlk hname hW hl
  have hS : va_S (Rg x) s.heap s.heap [] := va_S.rf
  have hl : lv_has ls 5 [(0, .ref x), (1, .int v0), (2, .int more)] := hl
  have hx := C0.1.1
  have hb := C0.1.2.1
  subst hR
  have eK : chR t (n, w, P, Q, kp) v0 more = cKeep (n, w, P, Q, kp) (nI (lowN ((more) >>> ((nI 1) &&& 31)) 2)) := by
    unfold chR
    rw [hk]
    exact if_pos hc
  rw [eK] at hQ
  refine lv_iload_n hx hb dL_change_0 rfl (lv_at hl 1 rfl) ?_
  refine lv_iconst (v := nI 5) hx hb dL_change_1 (by decide) ?_
  refine lv_ishr hx hb dL_change_2 ?_
  refine lv_bipush (v := nI 6) hx hb dL_change_3 (by decide) ?_
  refine mo_callS (A1 := fun _ => False) (As := [.int ((v0) >>> ((nI 5) &&& 31)), .int (nI 6)]) (rest := []) (st1 := [.int (nI (lowN ((v0) >>> ((nI 5) &&& 31)) 6))]) (Q := fun _ => True) C0 (ctL_low (v := (v0) >>> ((nI 5) &&& 31)) (n := 6) (by decide) (by decide) (Pp := fun _ => True)) (va_cwS 2 C0.1.2.2.2.2 gL_change_L_low rfl rfl rfl (by decide +kernel) ⟨Nat.le_of_ble_eq_true rfl, Nat.le_of_ble_eq_true rfl⟩) trivial hS (fun _ h => absurd h id) rfl rfl rfl hl.1 (Nat.le_of_ble_eq_true rfl) dL_change_5 ⟨Nat.le_of_ble_eq_true rfl, Nat.le_of_ble_eq_true rfl⟩ (fun H1 locs1 hT hF hS1 => ?_)
  replace hW := Wo_frame hW (fun q h1 h2 => hF.2 q h1 id)
  clear hS hT
  have hS := hS1
  clear hS1 hF
  refine lv_istore_n (lv' := [(3, .int (nI (lowN ((v0) >>> ((nI 5) &&& 31)) 6))), (0, .ref x), (1, .int (v0)), (2, .int (more))]) hx hb dL_change_8 rfl hl (by decide) rfl (fun ls hl => ?_)
  refine lv_iload_n hx hb dL_change_9 rfl (lv_at hl 2 rfl) ?_
  refine lv_bipush (v := nI 9) hx hb dL_change_10 (by decide) ?_
  refine lv_ishr hx hb dL_change_12 ?_
  refine lv_bipush (v := nI 6) hx hb dL_change_13 (by decide) ?_
  refine mo_callS (A1 := fun _ => False) (As := [.int ((v0) >>> ((nI 9) &&& 31)), .int (nI 6)]) (rest := []) (st1 := [.int (nI (lowN ((v0) >>> ((nI 9) &&& 31)) 6))]) (Q := fun _ => True) C0 (ctL_low (v := (v0) >>> ((nI 9) &&& 31)) (n := 6) (by decide) (by decide) (Pp := fun _ => True)) (va_cwS 2 C0.1.2.2.2.2 gL_change_L_low rfl rfl rfl (by decide +kernel) ⟨Nat.le_of_ble_eq_true rfl, Nat.le_of_ble_eq_true rfl⟩) trivial hS (fun _ h => absurd h id) rfl rfl rfl hl.1 (Nat.le_of_ble_eq_true rfl) dL_change_15 ⟨Nat.le_of_ble_eq_true rfl, Nat.le_of_ble_eq_true rfl⟩ (fun H1 locs1 hT hF hS1 => ?_)
  replace hW := Wo_frame hW (fun q h1 h2 => hF.2 q h1 id)
  clear hS hT
  have hS := hS1
  clear hS1 hF
  refine lv_istore (lv' := [(4, .int (nI (lowN ((v0) >>> ((nI 9) &&& 31)) 6))), (3, .int (nI (lowN ((v0) >>> ((nI 5) &&& 31)) 6))), (0, .ref x), (1, .int (v0)), (2, .int (more))]) hx hb dL_change_18 hl (by decide) rfl (fun ls hl => ?_)
  refine lv_iload_n hx hb dL_change_20 rfl (lv_at hl 3 rfl) ?_
  refine lv_bipush (v := nI 20) hx hb dL_change_21 (by decide) ?_
  refine mo_callS (A1 := fun _ => False) (As := [.int (v0), .int (nI 20)]) (rest := []) (st1 := [.int (nI (lowN v0 20))]) (Q := fun _ => True) C0 (ctL_low (v := v0) (n := 20) (by decide) (by decide) (Pp := fun _ => True)) (va_cwS 2 C0.1.2.2.2.2 gL_change_L_low rfl rfl rfl (by decide +kernel) ⟨Nat.le_of_ble_eq_true rfl, Nat.le_of_ble_eq_true rfl⟩) trivial hS (fun _ h => absurd h id) rfl rfl rfl hl.1 (Nat.le_of_ble_eq_true rfl) dL_change_23 ⟨Nat.le_of_ble_eq_true rfl, Nat.le_of_ble_eq_true rfl⟩ (fun H1 locs1 hT hF hS1 => ?_)
  replace hW := Wo_frame hW (fun q h1 h2 => hF.2 q h1 id)
  clear hS hT
  have hS := hS1
  clear hS1 hF
  refine mr_top (y := nI 18) (congrArg nI hk) ?_
  refine lv_tableIn (off := 208) (tgt := 234) hx hb dL_change_26 (by decide) (by decide) (by decide) (by decide) ?_
  refine lv_iload_n hx hb dL_change_234 rfl (lv_at hl 4 rfl) ?_
  refine lv_iconst (v := nI 2) hx hb dL_change_235 (by decide) ?_
  refine mo_callS (A1 := fun _ => False) (As := [.int (more), .int (nI 2)]) (rest := []) (st1 := [.int (nI (lowN more 2))]) (Q := fun _ => True) C0 (ctL_low (v := more) (n := 2) (by decide) (by decide) (Pp := fun _ => True)) (va_cwS 2 C0.1.2.2.2.2 gL_change_L_low rfl rfl rfl (by decide +kernel) ⟨Nat.le_of_ble_eq_true rfl, Nat.le_of_ble_eq_true rfl⟩) trivial hS (fun _ h => absurd h id) rfl rfl rfl hl.1 (Nat.le_of_ble_eq_true rfl) dL_change_236 ⟨Nat.le_of_ble_eq_true rfl, Nat.le_of_ble_eq_true rfl⟩ (fun H1 locs1 hT hF hS1 => ?_)
  replace hW := Wo_frame hW (fun q h1 h2 => hF.2 q h1 id)
  clear hS hT
  have hS := hS1
  clear hS1 hF
  refine mr_ne0N (x := lowN more 2) (tgt := 256) C0 dL_change_239 (by decide) (by omega) (fun c239 => absurd c239 (by omega)) (fun c239 => ?_)
  clear c239
  refine lv_aload_n hx hb dL_change_242 rfl (lv_at hl 2 rfl) ?_
  refine lv_iload_n hx hb dL_change_243 rfl (lv_at hl 4 rfl) ?_
  refine lv_iconst (v := nI 1) hx hb dL_change_244 (by decide) ?_
  refine lv_ishr hx hb dL_change_245 ?_
  refine lv_iconst (v := nI 2) hx hb dL_change_246 (by decide) ?_
  refine mo_callS (A1 := fun _ => False) (As := [.int ((more) >>> ((nI 1) &&& 31)), .int (nI 2)]) (rest := [.ref x]) (st1 := [.int (nI (lowN ((more) >>> ((nI 1) &&& 31)) 2)), .ref x]) (Q := fun _ => True) C0 (ctL_low (v := (more) >>> ((nI 1) &&& 31)) (n := 2) (by decide) (by decide) (Pp := fun _ => True)) (va_cwS 2 C0.1.2.2.2.2 gL_change_L_low rfl rfl rfl (by decide +kernel) ⟨Nat.le_of_ble_eq_true rfl, Nat.le_of_ble_eq_true rfl⟩) trivial hS (fun _ h => absurd h id) rfl rfl rfl hl.1 (Nat.le_of_ble_eq_true rfl) dL_change_247 ⟨Nat.le_of_ble_eq_true rfl, Nat.le_of_ble_eq_true rfl⟩ (fun H1 locs1 hT hF hS1 => ?_)
  replace hW := Wo_frame hW (fun q h1 h2 => hF.2 q h1 id)
  clear hS hT
  have hS := hS1
  clear hS1 hF
  refine mo_call (x := x) (As := [.int (nI (lowN ((more) >>> ((nI 1) &&& 31)) 2))]) (rest := []) (st1 := [.int ((cKeep (n, w, P, Q, kp) (nI (lowN ((more) >>> ((nI 1) &&& 31)) 2))).1)]) C0 (op_keep _) hW (fun rm x1 x2 x3 x4 => cwV 1 C0.1.2.2.2.2 gL_change_X3_keep rfl x1 x2 (by decide +kernel) ⟨by show _ ≤ 8; omega, by show _ ≤ 190; omega⟩) hS (fun _ h => h) rfl rfl rfl hl.1 (Nat.le_of_ble_eq_true rfl) dL_change_250 ⟨Nat.le_of_ble_eq_true rfl, Nat.le_of_ble_eq_true rfl⟩ (fun H1 locs1 hW hF hS1 => ?_)
  clear hS
  have hS := hS1
  clear hS1 hF
  refine lv_goto (tgt := 267) hx hb dL_change_253 (by decide) ?_
  exact mr_iret (v := (cKeep (n, w, P, Q, kp) (nI (lowN ((more) >>> ((nI 1) &&& 31)) 2))).1) C0 hr hlk hQ hS rfl hW (Nat.le_refl _) (Nat.le_refl _) dL_change_267
set_option maxHeartbeats 4000000 in
set_option maxRecDepth 100000 in
theorem chg_18b {l : Launch} {D : va_G} {T : Nat → ClassId} {x n t : Nat} {w : Nat → Int32} {P Q : Nat → Nat → Int32} {kp : Nat → Bool} {v0 more : Int32} (ht : t < 1000) (hk : lowN v0 20 = 18) (hc : ¬ lowN more 2 = 0) :
    Ct l yL_change wsL_change { frames := 8, cells := 0, slots := 0, locals := 190 } 0 0 D T (Rg x) [.ref x, .int v0, .int more] (fun H => Wo D T x t (n, w, P, Q, kp) H) (some (.int (chR t (n, w, P, Q, kp) v0 more).1)) (fun H => Wo D T x (t + 1) (chR t (n, w, P, Q, kp) v0 more).2 H) := by
  refine Ct.ofW (cc := cL_change) (maxL := 5) (ret := (some .int)) (by decide) rfl (Nat.le_of_ble_eq_true rfl) ?_
  intro p e s m args below meth c ls R Qq hR hQ C0 hr hlk hname hW hl
  have hS : va_S (Rg x) s.heap s.heap [] := va_S.rf
  have hl : lv_has ls 5 [(0, .ref x), (1, .int v0), (2, .int more)] := hl
  have hx := C0.1.1
  have hb := C0.1.2.1
  subst hR
  have eK : chR t (n, w, P, Q, kp) v0 more = prS (n, w, P, Q, kp) (cBack (n, w, P, Q, kp) (nI (lowN ((more) >>> ((nI 1) &&& 31)) 2))) := by
    unfold chR
    rw [hk]
    exact if_neg hc
  rw [eK] at hQ
  refine lv_iload_n hx hb dL_change_0 rfl (lv_at hl 1 rfl) ?_
  refine lv_iconst (v := nI 5) hx hb dL_change_1 (by decide) ?_
  refine lv_ishr hx hb dL_change_2 ?_
  refine lv_bipush (v := nI 6) hx hb dL_change_3 (by decide) ?_
  refine mo_callS (A1 := fun _ => False) (As := [.int ((v0) >>> ((nI 5) &&& 31)), .int (nI 6)]) (rest := []) (st1 := [.int (nI (lowN ((v0) >>> ((nI 5) &&& 31)) 6))]) (Q := fun _ => True) C0 (ctL_low (v := (v0) >>> ((nI 5) &&& 31)) (n := 6) (by decide) (by decide) (Pp := fun _ => True)) (va_cwS 2 C0.1.2.2.2.2 gL_change_L_low rfl rfl rfl (by decide +kernel) ⟨Nat.le_of_ble_eq_true rfl, Nat.le_of_ble_eq_true rfl⟩) trivial hS (fun _ h => absurd h id) rfl rfl rfl hl.1 (Nat.le_of_ble_eq_true rfl) dL_change_5 ⟨Nat.le_of_ble_eq_true rfl, Nat.le_of_ble_eq_true rfl⟩ (fun H1 locs1 hT hF hS1 => ?_)
  replace hW := Wo_frame hW (fun q h1 h2 => hF.2 q h1 id)
  clear hS hT
  have hS := hS1
  clear hS1 hF
  refine lv_istore_n (lv' := [(3, .int (nI (lowN ((v0) >>> ((nI 5) &&& 31)) 6))), (0, .ref x), (1, .int (v0)), (2, .int (more))]) hx hb dL_change_8 rfl hl (by decide) rfl (fun ls hl => ?_)
  refine lv_iload_n hx hb dL_change_9 rfl (lv_at hl 2 rfl) ?_
  refine lv_bipush (v := nI 9) hx hb dL_change_10 (by decide) ?_
  refine lv_ishr hx hb dL_change_12 ?_
  refine lv_bipush (v := nI 6) hx hb dL_change_13 (by decide) ?_
  refine mo_callS (A1 := fun _ => False) (As := [.int ((v0) >>> ((nI 9) &&& 31)), .int (nI 6)]) (rest := []) (st1 := [.int (nI (lowN ((v0) >>> ((nI 9) &&& 31)) 6))]) (Q := fun _ => True) C0 (ctL_low (v := (v0) >>> ((nI 9) &&& 31)) (n := 6) (by decide) (by decide) (Pp := fun _ => True)) (va_cwS 2 C0.1.2.2.2.2 gL_change_L_low rfl rfl rfl (by decide +kernel) ⟨Nat.le_of_ble_eq_true rfl, Nat.le_of_ble_eq_true rfl⟩) trivial hS (fun _ h => absurd h id) rfl rfl rfl hl.1 (Nat.le_of_ble_eq_true rfl) dL_change_15 ⟨Nat.le_of_ble_eq_true rfl, Nat.le_of_ble_eq_true rfl⟩ (fun H1 locs1 hT hF hS1 => ?_)
  replace hW := Wo_frame hW (fun q h1 h2 => hF.2 q h1 id)
  clear hS hT
  have hS := hS1
  clear hS1 hF
  refine lv_istore (lv' := [(4, .int (nI (lowN ((v0) >>> ((nI 9) &&& 31)) 6))), (3, .int (nI (lowN ((v0) >>> ((nI 5) &&& 31)) 6))), (0, .ref x), (1, .int (v0)), (2, .int (more))]) hx hb dL_change_18 hl (by decide) rfl (fun ls hl => ?_)
  refine lv_iload_n hx hb dL_change_20 rfl (lv_at hl 3 rfl) ?_
  refine lv_bipush (v := nI 20) hx hb dL_change_21 (by decide) ?_
  refine mo_callS (A1 := fun _ => False) (As := [.int (v0), .int (nI 20)]) (rest := []) (st1 := [.int (nI (lowN v0 20))]) (Q := fun _ => True) C0 (ctL_low (v := v0) (n := 20) (by decide) (by decide) (Pp := fun _ => True)) (va_cwS 2 C0.1.2.2.2.2 gL_change_L_low rfl rfl rfl (by decide +kernel) ⟨Nat.le_of_ble_eq_true rfl, Nat.le_of_ble_eq_true rfl⟩) trivial hS (fun _ h => absurd h id) rfl rfl rfl hl.1 (Nat.le_of_ble_eq_true rfl) dL_change_23 ⟨Nat.le_of_ble_eq_true rfl, Nat.le_of_ble_eq_true rfl⟩ (fun H1 locs1 hT hF hS1 => ?_)
  replace hW := Wo_frame hW (fun q h1 h2 => hF.2 q h1 id)
  clear hS hT
  have hS := hS1
  clear hS1 hF
  refine mr_top (y := nI 18) (congrArg nI hk) ?_
  refine lv_tableIn (off := 208) (tgt := 234) hx hb dL_change_26 (by decide) (by decide) (by decide) (by decide) ?_
  refine lv_iload_n hx hb dL_change_234 rfl (lv_at hl 4 rfl) ?_
  refine lv_iconst (v := nI 2) hx hb dL_change_235 (by decide) ?_
  refine mo_callS (A1 := fun _ => False) (As := [.int (more), .int (nI 2)]) (rest := []) (st1 := [.int (nI (lowN more 2))]) (Q := fun _ => True) C0 (ctL_low (v := more) (n := 2) (by decide) (by decide) (Pp := fun _ => True)) (va_cwS 2 C0.1.2.2.2.2 gL_change_L_low rfl rfl rfl (by decide +kernel) ⟨Nat.le_of_ble_eq_true rfl, Nat.le_of_ble_eq_true rfl⟩) trivial hS (fun _ h => absurd h id) rfl rfl rfl hl.1 (Nat.le_of_ble_eq_true rfl) dL_change_236 ⟨Nat.le_of_ble_eq_true rfl, Nat.le_of_ble_eq_true rfl⟩ (fun H1 locs1 hT hF hS1 => ?_)
  replace hW := Wo_frame hW (fun q h1 h2 => hF.2 q h1 id)
  clear hS hT
  have hS := hS1
  clear hS1 hF
  refine mr_ne0N (x := lowN more 2) (tgt := 256) C0 dL_change_239 (by decide) (by have := lowN_lt more (show 0 < 2 by decide); omega) (fun c239 => ?_) (fun c239 => absurd c239 hc)
  clear c239
  refine lv_aload_n hx hb dL_change_256 rfl (lv_at hl 2 rfl) ?_
  refine lv_iload_n hx hb dL_change_257 rfl (lv_at hl 4 rfl) ?_
  refine lv_iconst (v := nI 1) hx hb dL_change_258 (by decide) ?_
  refine lv_ishr hx hb dL_change_259 ?_
  refine lv_iconst (v := nI 2) hx hb dL_change_260 (by decide) ?_
  refine mo_callS (A1 := fun _ => False) (As := [.int ((more) >>> ((nI 1) &&& 31)), .int (nI 2)]) (rest := [.ref x]) (st1 := [.int (nI (lowN ((more) >>> ((nI 1) &&& 31)) 2)), .ref x]) (Q := fun _ => True) C0 (ctL_low (v := (more) >>> ((nI 1) &&& 31)) (n := 2) (by decide) (by decide) (Pp := fun _ => True)) (va_cwS 2 C0.1.2.2.2.2 gL_change_L_low rfl rfl rfl (by decide +kernel) ⟨Nat.le_of_ble_eq_true rfl, Nat.le_of_ble_eq_true rfl⟩) trivial hS (fun _ h => absurd h id) rfl rfl rfl hl.1 (Nat.le_of_ble_eq_true rfl) dL_change_261 ⟨Nat.le_of_ble_eq_true rfl, Nat.le_of_ble_eq_true rfl⟩ (fun H1 locs1 hT hF hS1 => ?_)
  replace hW := Wo_frame hW (fun q h1 h2 => hF.2 q h1 id)
  clear hS hT
  have hS := hS1
  clear hS1 hF
  refine mo_call (x := x) (As := [.int (nI (lowN ((more) >>> ((nI 1) &&& 31)) 2))]) (rest := []) (st1 := [.int ((prS (n, w, P, Q, kp) (cBack (n, w, P, Q, kp) (nI (lowN ((more) >>> ((nI 1) &&& 31)) 2)))).1)]) C0 (op_back _) hW (fun rm x1 x2 x3 x4 => cwV 1 C0.1.2.2.2.2 gL_change_X3_back rfl x1 x2 (by decide +kernel) ⟨by show _ ≤ 8; omega, by show _ ≤ 190; omega⟩) hS (fun _ h => h) rfl rfl rfl hl.1 (Nat.le_of_ble_eq_true rfl) dL_change_264 ⟨Nat.le_of_ble_eq_true rfl, Nat.le_of_ble_eq_true rfl⟩ (fun H1 locs1 hW hF hS1 => ?_)
  clear hS
  have hS := hS1
  clear hS1 hF
  exact mr_iret (v := (prS (n, w, P, Q, kp) (cBack (n, w, P, Q, kp) (nI (lowN ((more) >>> ((nI 1) &&& 31)) 2)))).1) C0 hr hlk hQ hS rfl hW (Nat.le_refl _) (Nat.le_refl _) dL_change_267
set_option maxHeartbeats 4000000 in
set_option maxRecDepth 100000 in
theorem chg_19 {l : Launch} {D : va_G} {T : Nat → ClassId} {x n t : Nat} {w : Nat → Int32} {P Q : Nat → Nat → Int32} {kp : Nat → Bool} {v0 more : Int32} (ht : t < 1000) (hk : lowN v0 20 = 19) :
    Ct l yL_change wsL_change { frames := 8, cells := 0, slots := 0, locals := 190 } 0 0 D T (Rg x) [.ref x, .int v0, .int more] (fun H => Wo D T x t (n, w, P, Q, kp) H) (some (.int (chR t (n, w, P, Q, kp) v0 more).1)) (fun H => Wo D T x (t + 1) (chR t (n, w, P, Q, kp) v0 more).2 H) := by
  refine Ct.ofW (cc := cL_change) (maxL := 5) (ret := (some .int)) (by decide) rfl (Nat.le_of_ble_eq_true rfl) ?_
  intro p e s m args below meth c ls R Qq hR hQ C0 hr hlk hname hW hl
  have hS : va_S (Rg x) s.heap s.heap [] := va_S.rf
  have hl : lv_has ls 5 [(0, .ref x), (1, .int v0), (2, .int more)] := hl
  have hx := C0.1.1
  have hb := C0.1.2.1
  subst hR
  have eK : chR t (n, w, P, Q, kp) v0 more = cUndo (n, w, P, Q, kp) := by
    unfold chR
    rw [hk]
    rfl
  rw [eK] at hQ
  refine lv_iload_n hx hb dL_change_0 rfl (lv_at hl 1 rfl) ?_
  refine lv_iconst (v := nI 5) hx hb dL_change_1 (by decide) ?_
  refine lv_ishr hx hb dL_change_2 ?_
  refine lv_bipush (v := nI 6) hx hb dL_change_3 (by decide) ?_
  refine mo_callS (A1 := fun _ => False) (As := [.int ((v0) >>> ((nI 5) &&& 31)), .int (nI 6)]) (rest := []) (st1 := [.int (nI (lowN ((v0) >>> ((nI 5) &&& 31)) 6))]) (Q := fun _ => True) C0 (ctL_low (v := (v0) >>> ((nI 5) &&& 31)) (n := 6) (by decide) (by decide) (Pp := fun _ => True)) (va_cwS 2 C0.1.2.2.2.2 gL_change_L_low rfl rfl rfl (by decide +kernel) ⟨Nat.le_of_ble_eq_true rfl, Nat.le_of_ble_eq_true rfl⟩) trivial hS (fun _ h => absurd h id) rfl rfl rfl hl.1 (Nat.le_of_ble_eq_true rfl) dL_change_5 ⟨Nat.le_of_ble_eq_true rfl, Nat.le_of_ble_eq_true rfl⟩ (fun H1 locs1 hT hF hS1 => ?_)
  replace hW := Wo_frame hW (fun q h1 h2 => hF.2 q h1 id)
  clear hS hT
  have hS := hS1
  clear hS1 hF
  refine lv_istore_n (lv' := [(3, .int (nI (lowN ((v0) >>> ((nI 5) &&& 31)) 6))), (0, .ref x), (1, .int (v0)), (2, .int (more))]) hx hb dL_change_8 rfl hl (by decide) rfl (fun ls hl => ?_)
  refine lv_iload_n hx hb dL_change_9 rfl (lv_at hl 2 rfl) ?_
  refine lv_bipush (v := nI 9) hx hb dL_change_10 (by decide) ?_
  refine lv_ishr hx hb dL_change_12 ?_
  refine lv_bipush (v := nI 6) hx hb dL_change_13 (by decide) ?_
  refine mo_callS (A1 := fun _ => False) (As := [.int ((v0) >>> ((nI 9) &&& 31)), .int (nI 6)]) (rest := []) (st1 := [.int (nI (lowN ((v0) >>> ((nI 9) &&& 31)) 6))]) (Q := fun _ => True) C0 (ctL_low (v := (v0) >>> ((nI 9) &&& 31)) (n := 6) (by decide) (by decide) (Pp := fun _ => True)) (va_cwS 2 C0.1.2.2.2.2 gL_change_L_low rfl rfl rfl (by decide +kernel) ⟨Nat.le_of_ble_eq_true rfl, Nat.le_of_ble_eq_true rfl⟩) trivial hS (fun _ h => absurd h id) rfl rfl rfl hl.1 (Nat.le_of_ble_eq_true rfl) dL_change_15 ⟨Nat.le_of_ble_eq_true rfl, Nat.le_of_ble_eq_true rfl⟩ (fun H1 locs1 hT hF hS1 => ?_)
  replace hW := Wo_frame hW (fun q h1 h2 => hF.2 q h1 id)
  clear hS hT
  have hS := hS1
  clear hS1 hF
  refine lv_istore (lv' := [(4, .int (nI (lowN ((v0) >>> ((nI 9) &&& 31)) 6))), (3, .int (nI (lowN ((v0) >>> ((nI 5) &&& 31)) 6))), (0, .ref x), (1, .int (v0)), (2, .int (more))]) hx hb dL_change_18 hl (by decide) rfl (fun ls hl => ?_)
  refine lv_iload_n hx hb dL_change_20 rfl (lv_at hl 3 rfl) ?_
  refine lv_bipush (v := nI 20) hx hb dL_change_21 (by decide) ?_
  refine mo_callS (A1 := fun _ => False) (As := [.int (v0), .int (nI 20)]) (rest := []) (st1 := [.int (nI (lowN v0 20))]) (Q := fun _ => True) C0 (ctL_low (v := v0) (n := 20) (by decide) (by decide) (Pp := fun _ => True)) (va_cwS 2 C0.1.2.2.2.2 gL_change_L_low rfl rfl rfl (by decide +kernel) ⟨Nat.le_of_ble_eq_true rfl, Nat.le_of_ble_eq_true rfl⟩) trivial hS (fun _ h => absurd h id) rfl rfl rfl hl.1 (Nat.le_of_ble_eq_true rfl) dL_change_23 ⟨Nat.le_of_ble_eq_true rfl, Nat.le_of_ble_eq_true rfl⟩ (fun H1 locs1 hT hF hS1 => ?_)
  replace hW := Wo_frame hW (fun q h1 h2 => hF.2 q h1 id)
  clear hS hT
  have hS := hS1
  clear hS1 hF
  refine mr_top (y := nI 19) (congrArg nI hk) ?_
  refine lv_tableOut (tgt := 268) hx hb dL_change_26 (by decide) (by decide) ?_
  refine lv_aload_n hx hb dL_change_268 rfl (lv_at hl 2 rfl) ?_
  refine mo_call (x := x) (As := []) (rest := []) (st1 := [.int ((cUndo (n, w, P, Q, kp)).1)]) C0 (op_undo) hW (fun rm x1 x2 x3 x4 => cwV 0 C0.1.2.2.2.2 gL_change_X3_undo rfl x1 x2 (by decide +kernel) ⟨by show _ ≤ 8; omega, by show _ ≤ 190; omega⟩) hS (fun _ h => h) rfl rfl rfl hl.1 (Nat.le_of_ble_eq_true rfl) dL_change_269 ⟨Nat.le_of_ble_eq_true rfl, Nat.le_of_ble_eq_true rfl⟩ (fun H1 locs1 hW hF hS1 => ?_)
  clear hS
  have hS := hS1
  clear hS1 hF
  exact mr_iret (v := (cUndo (n, w, P, Q, kp)).1) C0 hr hlk hQ hS rfl hW (Nat.le_refl _) (Nat.le_refl _) dL_change_272
theorem ctL_change {l : Launch} {D : va_G} {T : Nat → ClassId} {x t : Nat} {S : abS} {v0 more : Int32} (ht : t < 1000) :
    Ct l yL_change wsL_change { frames := 8, cells := 0, slots := 0, locals := 190 } 0 0 D T (Rg x) [.ref x, .int v0, .int more] (fun H => Wo D T x t S H) (some (.int (chR t S v0 more).1)) (fun H => Wo D T x (t + 1) (chR t S v0 more).2 H) := by
  obtain ⟨n, w, P, Q, kp⟩ := S
  have hk := lowN_lt v0 (show 0 < 20 by decide)
  generalize hq : lowN v0 20 = q at hk
  match q, hk with
  | 0, _ => exact chg_0 ht hq
  | 1, _ => exact chg_1 ht hq
  | 2, _ => exact chg_2 ht hq
  | 3, _ => exact chg_3 ht hq
  | 4, _ => exact chg_4 ht hq
  | 5, _ => exact chg_5 ht hq
  | 6, _ => exact chg_6 ht hq
  | 7, _ => exact chg_7 ht hq
  | 8, _ => exact chg_8 ht hq
  | 9, _ => exact chg_9 ht hq
  | 10, _ =>
    by_cases hc : lowN more 5 = 0
    · exact chg_10a ht hq hc
    · exact chg_10b ht hq hc
  | 11, _ =>
    by_cases hc : lowN more 5 = 0
    · exact chg_11a ht hq hc
    · exact chg_11b ht hq hc
  | 12, _ =>
    by_cases hc : lowN more 5 = 0
    · exact chg_12a ht hq hc
    · exact chg_12b ht hq hc
  | 13, _ => exact chg_13 ht hq
  | 14, _ =>
    by_cases hc : lowN more 3 = 0
    · exact chg_14a ht hq hc
    · exact chg_14b ht hq hc
  | 15, _ => exact chg_15 ht hq
  | 16, _ => exact chg_16 ht hq
  | 17, _ => exact chg_17 ht hq
  | 18, _ =>
    by_cases hc : lowN more 2 = 0
    · exact chg_18a ht hq hc
    · exact chg_18b ht hq hc
  | 19, _ => exact chg_19 ht hq
  | q + 20, hk => exact absurd hk (by omega)
