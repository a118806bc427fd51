/-! part 81: the law's loop (laid by wip/p23/lay14.py) -/
set_option maxHeartbeats 4000000 in
set_option maxRecDepth 100000 in
theorem law_cell {p : Program} {l : Launch} {e : Env} {s : State} {m : MethodId} {below : List Frame} {meth : Method} {c : Code} {D : va_G} {T : Nat → ClassId} {A : Nat → Prop} {H : Heap} {locs : List Loc} {Qq : State → Prop} {ls : Array Slot} {rest : List Value} {sb N k pc : Nat} {xs : Nat → Int32}
    (C0 : Cx p s m #[Value.ref sb] c code 6 wsL_law RL D T) (hX : va_X sb N xs s s.heap) (hbl : sb < s.heap.size) (hbA : ¬ A sb) (hS : va_S A s.heap H locs) (hN : N ≤ 260) (hk : k < 1000) (hsz : ls.size = 6) (hr : (rest.map fun v => v.category).sum ≤ 8) (hdg : decode code pc = .ok (.invokestatic 82, 3))
    (kk : ∀ (H1 : Heap) (locs1 : List Loc), (H.size ≤ H1.size ∧ ∀ q, q < H.size → ¬ False → H1[q]? = H[q]?) → va_S A s.heap H1 locs1 → W p l e room_1 s m #[Value.ref sb] below meth c H1 locs1 600000 7302250 Qq (F0 m (pc + 3) ls (.int (clV xs N k) :: rest))) : W p l e room_1 s m #[Value.ref sb] below meth c H locs 600000 7302250 Qq (F0 m pc ls (.int (nI k) :: .ref sb :: rest)) := by
  refine mo_back (st0 := .int (nI k) :: .ref sb :: rest) (rest := rest) (Q := fun _ => True) (va_runS (As := [.ref sb, .int (nI k)]) (rest := rest) C0.1 (ctL_cell (D := D) (T := T) (sb := sb) (N := N) (k := k) (xs := xs) (by omega) hk (Pp := fun _ => True)) (va_cwS 2 C0.1.2.2.2.2 gL_law_L_cell rfl rfl rfl (by decide +kernel) ⟨Nat.le_of_ble_eq_true rfl, Nat.le_of_ble_eq_true rfl⟩) ⟨cl_blind, fun U hU hW => ⟨rfl, ?_, ?_, trivial, Kx.warm hW C0.2⟩⟩ rfl rfl hsz rfl (lv_room hr) hdg ⟨Nat.le_of_ble_eq_true rfl, Nat.le_of_ble_eq_true rfl⟩) (fun _ h => absurd h id) hS rfl (fun H1 locs1 _ hF hS1 => kk H1 locs1 hF hS1)
  · exact (va_X.kept hX (by rw [hU]; exact hS.2.1 sb hbl hbA)).moved hW.alike
  · rw [hU]; exact Nat.lt_of_lt_of_le hbl hS.1
set_option maxHeartbeats 4000000 in
set_option maxRecDepth 100000 in
theorem law_t1 {p : Program} {l : Launch} {e : Env} {s : State} {m : MethodId} {below : List Frame} {meth : Method} {c : Code} {D : va_G} {T : Nat → ClassId} {sb z y N : Nat} {xs : Nat → Int32} {Qq : State → Prop} {tu : Nat} {S : abS} {H : Heap} {locs : List Loc} {ls : Array Slot} (C0 : Cx p s m #[Value.ref sb] c code 6 wsL_law RL D T) (hX : va_X sb N xs s s.heap) (hbl : sb < s.heap.size) (hN : N ≤ 260) (hz : s.heap.size ≤ z) (hzy : z + 1001 = y) (ht : tu < 26) (hW : Wo D T z tu S H) (hV : Wo D T y tu S H) (hS : va_S (fun q => s.heap.size ≤ q) s.heap H locs) (hl : lv_has ls 6 [(0, .ref sb), (1, .ref z), (2, .ref y), (3, .int (nI tu))])
    (kk : ∀ (H1 : Heap) (locs1 : List Loc) (ls1 : Array Slot), Wo D T z (tu + 1) (chR tu S (clV xs N (2 * tu)) (clV xs N (2 * tu + 1))).2 H1 → Wo D T y (tu + 1) (chR tu S (clV xs N (2 * tu)) (clV xs N (2 * tu + 1))).2 H1 → va_S (fun q => s.heap.size ≤ q) s.heap H1 locs1 → lv_has ls1 6 [(0, .ref sb), (1, .ref z), (2, .ref y), (3, .int (nI tu)), (4, .int (clV xs N (2 * tu))), (5, .int (clV xs N (2 * tu + 1)))] → W p l e room_1 s m #[Value.ref sb] below meth c H1 locs1 600000 7302250 Qq (F0 m 63 ls1 [])) : W p l e room_1 s m #[Value.ref sb] below meth c H locs 600000 7302250 Qq (F0 m 24 ls []) := by
  have hx := C0.1.1
  have hb := C0.1.2.1
  have hbA : ¬ (fun q => s.heap.size ≤ q) sb := Nat.not_le.mpr hbl
  have hAz : ∀ q, Rg z q → (fun q => s.heap.size ≤ q) q := fun q h => Nat.le_trans hz h.1
  have hAy : ∀ q, Rg y q → (fun q => s.heap.size ≤ q) q := fun q h => Nat.le_trans (Nat.le_trans hz (by omega)) h.1
  have hap : ∀ q, Rg z q → ¬ Rg y q := fun q h1 h2 => by have := h1.2; have := h2.1; omega
  refine lv_aload_n hx hb dL_law_24 rfl (lv_at hl 0 rfl) ?_
  refine lv_iconst (v := nI 2) hx hb dL_law_25 (by decide) ?_
  refine lv_iload_n hx hb dL_law_26 rfl (lv_at hl 3 rfl) ?_
  refine mr_imulN (z := 2 * tu) C0 (rfl) dL_law_27 ?_
  refine law_cell (k := 2 * tu) (rest := []) C0 hX hbl hbA hS hN (by omega) hl.1 (Nat.le_of_ble_eq_true rfl) dL_law_28 (fun H1 locs1 hF hS1 => ?_)
  replace hW := Wo_frame hW (fun q h1 _ => hF.2 q h1 id)
  replace hV := Wo_frame hV (fun q h1 _ => hF.2 q h1 id)
  clear hS
  have hS := hS1
  clear hS1 hF
  refine lv_istore (lv' := [(4, .int (clV xs N (2 * tu))), (0, .ref sb), (1, .ref z), (2, .ref y), (3, .int (nI tu))]) hx hb dL_law_31 hl (by decide) rfl (fun ls hl => ?_)
  refine lv_aload_n hx hb dL_law_33 rfl (lv_at hl 1 rfl) ?_
  refine lv_iconst (v := nI 2) hx hb dL_law_34 (by decide) ?_
  refine lv_iload_n hx hb dL_law_35 rfl (lv_at hl 4 rfl) ?_
  refine mr_imulN (z := 2 * tu) C0 (rfl) dL_law_36 ?_
  refine lv_iconst (v := nI 1) hx hb dL_law_37 (by decide) ?_
  refine mr_iaddN (z := 2 * tu + 1) C0 (rfl) dL_law_38 ?_
  refine law_cell (k := 2 * tu + 1) (rest := []) C0 hX hbl hbA hS hN (by omega) hl.1 (Nat.le_of_ble_eq_true rfl) dL_law_39 (fun H1 locs1 hF hS1 => ?_)
  replace hW := Wo_frame hW (fun q h1 _ => hF.2 q h1 id)
  replace hV := Wo_frame hV (fun q h1 _ => hF.2 q h1 id)
  clear hS
  have hS := hS1
  clear hS1 hF
  refine lv_istore (lv' := [(5, .int (clV xs N (2 * tu + 1))), (4, .int (clV xs N (2 * tu))), (0, .ref sb), (1, .ref z), (2, .ref y), (3, .int (nI tu))]) hx hb dL_law_42 hl (by decide) rfl (fun ls hl => ?_)
  refine lv_aload_n hx hb dL_law_44 rfl (lv_at hl 3 rfl) ?_
  refine lv_iload hx hb dL_law_45 (lv_at hl 1 rfl) ?_
  refine lv_iload hx hb dL_law_47 (lv_at hl 0 rfl) ?_
  refine mo_callS (A1 := Rg z) (As := [.ref z, .int (clV xs N (2 * tu)), .int (clV xs N (2 * tu + 1))]) (rest := []) (st1 := [.int ((chR tu S (clV xs N (2 * tu)) (clV xs N (2 * tu + 1))).1)]) (Q := fun H => Wo D T z (tu + 1) (chR tu S (clV xs N (2 * tu)) (clV xs N (2 * tu + 1))).2 H) C0 (ctL_change (x := z) (t := tu) (S := S) (by omega)) (va_cwS 3 C0.1.2.2.2.2 gL_law_L_change rfl rfl rfl (by decide +kernel) ⟨Nat.le_of_ble_eq_true rfl, Nat.le_of_ble_eq_true rfl⟩) hW hS hAz rfl rfl rfl hl.1 (Nat.le_of_ble_eq_true rfl) dL_law_49 ⟨Nat.le_of_ble_eq_true rfl, Nat.le_of_ble_eq_true rfl⟩ (fun H1 locs1 hW hF hS1 => ?_)
  replace hV := Wo_frame hV (fun q h1 h2 => hF.2 q h1 (fun z0 => hap q z0 h2))
  clear hS
  have hS := hS1
  clear hS1 hF
  refine lv_aload_n hx hb dL_law_52 rfl (lv_at hl 4 rfl) ?_
  refine lv_iload hx hb dL_law_53 (lv_at hl 1 rfl) ?_
  refine lv_iload hx hb dL_law_55 (lv_at hl 0 rfl) ?_
  refine mo_callS (A1 := Rg y) (As := [.ref y, .int (clV xs N (2 * tu)), .int (clV xs N (2 * tu + 1))]) (rest := [.int ((chR tu S (clV xs N (2 * tu)) (clV xs N (2 * tu + 1))).1)]) (st1 := [.int ((chR tu S (clV xs N (2 * tu)) (clV xs N (2 * tu + 1))).1), .int ((chR tu S (clV xs N (2 * tu)) (clV xs N (2 * tu + 1))).1)]) (Q := fun H => Wo D T y (tu + 1) (chR tu S (clV xs N (2 * tu)) (clV xs N (2 * tu + 1))).2 H) C0 (ctL_change (x := y) (t := tu) (S := S) (by omega)) (va_cwS 3 C0.1.2.2.2.2 gL_law_L_change rfl rfl rfl (by decide +kernel) ⟨Nat.le_of_ble_eq_true rfl, Nat.le_of_ble_eq_true rfl⟩) hV hS hAy rfl rfl rfl hl.1 (Nat.le_of_ble_eq_true rfl) dL_law_57 ⟨Nat.le_of_ble_eq_true rfl, Nat.le_of_ble_eq_true rfl⟩ (fun H1 locs1 hV hF hS1 => ?_)
  replace hW := Wo_frame hW (fun q h1 h2 => hF.2 q h1 (hap q h2))
  clear hS
  have hS := hS1
  clear hS1 hF
  refine lv_icmp_ne (tgt := 103) hx hb dL_law_60 (by decide) (fun c60 => absurd rfl c60) (fun c60 => ?_)
  clear c60
  exact kk _ _ _ hW hV hS (lv_sub hl [2, 3, 4, 5, 1, 0] rfl)
set_option maxHeartbeats 4000000 in
set_option maxRecDepth 100000 in
theorem law_t2n {p : Program} {l : Launch} {e : Env} {s : State} {m : MethodId} {below : List Frame} {meth : Method} {c : Code} {D : va_G} {T : Nat → ClassId} {sb z y N : Nat} {xs : Nat → Int32} {Qq : State → Prop} {tu : Nat} {n : Nat} {w : Nat → Int32} {P Q : Nat → Nat → Int32} {kp : Nat → Bool} {v0 mo : Int32} {H : Heap} {locs : List Loc} {ls : Array Slot} (C0 : Cx p s m #[Value.ref sb] c code 6 wsL_law RL D T) (hX : va_X sb N xs s s.heap) (hbl : sb < s.heap.size) (hN : N ≤ 260) (hz : s.heap.size ≤ z) (hzy : z + 1001 = y) (ht : tu < 26) (hG : Good w (tu + 1)) (hE : Ex w) (h5 : ¬ tu % 5 = 4) (hW : Wo D T z (tu + 1) (n, w, P, Q, kp) H) (hV : Wo D T y (tu + 1) (n, w, P, Q, kp) H) (hS : va_S (fun q => s.heap.size ≤ q) s.heap H locs) (hl : lv_has ls 6 [(0, .ref sb), (1, .ref z), (2, .ref y), (3, .int (nI tu)), (4, .int (v0)), (5, .int (mo))])
    (kk : ∀ (H1 : Heap) (locs1 : List Loc) (ls1 : Array Slot), Wo D T z (tu + 1) (n, w, P, Q, kp) H1 → Wo D T y (tu + 1) (n, w, P, Q, kp) H1 → va_S (fun q => s.heap.size ≤ q) s.heap H1 locs1 → lv_has ls1 6 [(0, .ref sb), (1, .ref z), (2, .ref y), (3, .int (nI tu)), (4, .int (v0)), (5, .int (mo))] → W p l e room_1 s m #[Value.ref sb] below meth c H1 locs1 600000 7302250 Qq (F0 m 141 ls1 [])) : W p l e room_1 s m #[Value.ref sb] below meth c H locs 600000 7302250 Qq (F0 m 63 ls []) := by
  have hx := C0.1.1
  have hb := C0.1.2.1
  have hbA : ¬ (fun q => s.heap.size ≤ q) sb := Nat.not_le.mpr hbl
  have hAz : ∀ q, Rg z q → (fun q => s.heap.size ≤ q) q := fun q h => Nat.le_trans hz h.1
  have hAy : ∀ q, Rg y q → (fun q => s.heap.size ≤ q) q := fun q h => Nat.le_trans (Nat.le_trans hz (by omega)) h.1
  have hap : ∀ q, Rg z q → ¬ Rg y q := fun q h1 h2 => by have := h1.2; have := h2.1; omega
  have hep := good_ep hG
  refine lv_aload_n hx hb dL_law_63 rfl (lv_at hl 1 rfl) ?_
  refine mo_callS (A1 := Rg z) (As := [.ref z]) (rest := []) (st1 := [.int (bI true)]) (Q := fun H => Wo D T z (tu + 1) (n, w, P, Q, kp) H) C0 (ctL_areQueues (t := tu + 1) (by omega) hG hE) (va_cwS 1 C0.1.2.2.2.2 gL_law_L_areQueues rfl rfl rfl (by decide +kernel) ⟨Nat.le_of_ble_eq_true rfl, Nat.le_of_ble_eq_true rfl⟩) hW hS hAz rfl rfl rfl hl.1 (Nat.le_of_ble_eq_true rfl) dL_law_64 ⟨Nat.le_of_ble_eq_true rfl, Nat.le_of_ble_eq_true rfl⟩ (fun H1 locs1 hW hF hS1 => ?_)
  replace hV := Wo_frame hV (fun q h1 h2 => hF.2 q h1 (fun z0 => hap q z0 h2))
  clear hS
  have hS := hS1
  clear hS1 hF
  refine lv_if_eq (tgt := 103) hx hb dL_law_67 (by decide) (fun c67 => absurd c67 (by decide)) (fun c67 => ?_)
  clear c67
  refine lv_aload_n hx hb dL_law_70 rfl (lv_at hl 1 rfl) ?_
  refine mo_callS (A1 := Rg z) (As := [.ref z]) (rest := []) (st1 := [.int (bI true)]) (Q := fun H => Wo D T z (tu + 1) (n, w, P, Q, kp) H) C0 (ctL_isNext (t := tu + 1) hG hE) (va_cwS 1 C0.1.2.2.2.2 gL_law_L_isNext rfl rfl rfl (by decide +kernel) ⟨Nat.le_of_ble_eq_true rfl, Nat.le_of_ble_eq_true rfl⟩) hW hS hAz rfl rfl rfl hl.1 (Nat.le_of_ble_eq_true rfl) dL_law_71 ⟨Nat.le_of_ble_eq_true rfl, Nat.le_of_ble_eq_true rfl⟩ (fun H1 locs1 hW hF hS1 => ?_)
  replace hV := Wo_frame hV (fun q h1 h2 => hF.2 q h1 (fun z0 => hap q z0 h2))
  clear hS
  have hS := hS1
  clear hS1 hF
  refine lv_if_eq (tgt := 103) hx hb dL_law_74 (by decide) (fun c74 => absurd c74 (by decide)) (fun c74 => ?_)
  clear c74
  refine lv_aload_n hx hb dL_law_77 rfl (lv_at hl 1 rfl) ?_
  refine lv_iload hx hb dL_law_78 (lv_at hl 5 rfl) ?_
  refine lv_iconst (v := nI 3) hx hb dL_law_80 (by decide) ?_
  refine lv_ishr hx hb dL_law_81 ?_
  refine lv_bipush (v := nI 6) hx hb dL_law_82 (by decide) ?_
  refine mo_callS (A1 := fun _ => False) (As := [.int ((mo) >>> ((nI 3) &&& 31)), .int (nI 6)]) (rest := [.ref z]) (st1 := [.int (nI (lowN ((mo) >>> ((nI 3) &&& 31)) 6)), .ref z]) (Q := fun _ => True) C0 (ctL_low (v := (mo) >>> ((nI 3) &&& 31)) (n := 6) (by decide) (by decide) (Pp := fun _ => True)) (va_cwS 2 C0.1.2.2.2.2 gL_law_L_low rfl rfl rfl (by decide +kernel) ⟨Nat.le_of_ble_eq_true rfl, Nat.le_of_ble_eq_true rfl⟩) trivial hS (fun _ h => absurd h id) rfl rfl rfl hl.1 (Nat.le_of_ble_eq_true rfl) dL_law_84 ⟨Nat.le_of_ble_eq_true rfl, Nat.le_of_ble_eq_true rfl⟩ (fun H1 locs1 hT hF hS1 => ?_)
  replace hW := Wo_frame hW (fun q h1 _ => hF.2 q h1 id)
  replace hV := Wo_frame hV (fun q h1 _ => hF.2 q h1 id)
  clear hT
  clear hS
  have hS := hS1
  clear hS1 hF
  refine lv_iload hx hb dL_law_87 (lv_at hl 5 rfl) ?_
  refine lv_bipush (v := nI 8) hx hb dL_law_89 (by decide) ?_
  refine lv_ishr hx hb dL_law_91 ?_
  refine lv_bipush (v := nI 6) hx hb dL_law_92 (by decide) ?_
  refine mo_callS (A1 := fun _ => False) (As := [.int ((mo) >>> ((nI 8) &&& 31)), .int (nI 6)]) (rest := [.int (nI (lowN ((mo) >>> ((nI 3) &&& 31)) 6)), .ref z]) (st1 := [.int (nI (lowN ((mo) >>> ((nI 8) &&& 31)) 6)), .int (nI (lowN ((mo) >>> ((nI 3) &&& 31)) 6)), .ref z]) (Q := fun _ => True) C0 (ctL_low (v := (mo) >>> ((nI 8) &&& 31)) (n := 6) (by decide) (by decide) (Pp := fun _ => True)) (va_cwS 2 C0.1.2.2.2.2 gL_law_L_low rfl rfl rfl (by decide +kernel) ⟨Nat.le_of_ble_eq_true rfl, Nat.le_of_ble_eq_true rfl⟩) trivial hS (fun _ h => absurd h id) rfl rfl rfl hl.1 (Nat.le_of_ble_eq_true rfl) dL_law_94 ⟨Nat.le_of_ble_eq_true rfl, Nat.le_of_ble_eq_true rfl⟩ (fun H1 locs1 hT hF hS1 => ?_)
  replace hW := Wo_frame hW (fun q h1 _ => hF.2 q h1 id)
  replace hV := Wo_frame hV (fun q h1 _ => hF.2 q h1 id)
  clear hT
  clear hS
  have hS := hS1
  clear hS1 hF
  refine mo_callS (A1 := Rg z) (As := [.ref z, .int (nI (lowN ((mo) >>> ((nI 3) &&& 31)) 6)), .int (nI (lowN ((mo) >>> ((nI 8) &&& 31)) 6))]) (rest := []) (st1 := [.int (bI true)]) (Q := fun H => Wo D T z (tu + 1) (n, w, P, Q, kp) H) C0 (ctL_isWitness (t := tu + 1) hG (Nat.lt_of_lt_of_le (lowN_lt _ (by decide)) (by decide)) (Nat.lt_of_lt_of_le (lowN_lt _ (by decide)) (by decide))) (va_cwS 3 C0.1.2.2.2.2 gL_law_L_isWitness rfl rfl rfl (by decide +kernel) ⟨Nat.le_of_ble_eq_true rfl, Nat.le_of_ble_eq_true rfl⟩) hW hS hAz rfl rfl rfl hl.1 (Nat.le_of_ble_eq_true rfl) dL_law_97 ⟨Nat.le_of_ble_eq_true rfl, Nat.le_of_ble_eq_true rfl⟩ (fun H1 locs1 hW hF hS1 => ?_)
  replace hV := Wo_frame hV (fun q h1 h2 => hF.2 q h1 (fun z0 => hap q z0 h2))
  clear hS
  have hS := hS1
  clear hS1 hF
  refine lv_if_ne (tgt := 105) hx hb dL_law_100 (by decide) (fun c100 => ?_) (fun c100 => absurd c100 (by decide))
  clear c100
  refine lv_iload_n hx hb dL_law_105 rfl (lv_at hl 3 rfl) ?_
  refine lv_iconst (v := nI 5) hx hb dL_law_106 (by decide) ?_
  refine lv_irem hx hb dL_law_107 (by decide) ?_
  refine mr_top (y := nI (tu % 5)) (pk_rem (show tu < 2 ^ 31 by omega) (by decide) (by decide)) ?_
  refine lv_iconst (v := nI 4) hx hb dL_law_108 (by decide) ?_
  refine mr_neN (x := tu % 5) (y := 4) (tgt := 141) C0 dL_law_109 (by decide) (by omega) (by omega) (fun c109 => ?_) (fun c109 => absurd c109 (by omega))
  clear c109
  exact kk _ _ _ hW hV hS (lv_sub hl [0, 1, 2, 3, 4, 5] rfl)
set_option maxHeartbeats 4000000 in
set_option maxRecDepth 100000 in
theorem law_t2y {p : Program} {l : Launch} {e : Env} {s : State} {m : MethodId} {below : List Frame} {meth : Method} {c : Code} {D : va_G} {T : Nat → ClassId} {sb z y N : Nat} {xs : Nat → Int32} {Qq : State → Prop} {tu : Nat} {n : Nat} {w : Nat → Int32} {P Q : Nat → Nat → Int32} {kp : Nat → Bool} {v0 mo : Int32} {H : Heap} {locs : List Loc} {ls : Array Slot} (C0 : Cx p s m #[Value.ref sb] c code 6 wsL_law RL D T) (hX : va_X sb N xs s s.heap) (hbl : sb < s.heap.size) (hN : N ≤ 260) (hz : s.heap.size ≤ z) (hzy : z + 1001 = y) (ht : tu < 26) (hG : Good w (tu + 1)) (hE : Ex w) (h5 : tu % 5 = 4) (hW : Wo D T z (tu + 1) (n, w, P, Q, kp) H) (hV : Wo D T y (tu + 1) (n, w, P, Q, kp) H) (hS : va_S (fun q => s.heap.size ≤ q) s.heap H locs) (hl : lv_has ls 6 [(0, .ref sb), (1, .ref z), (2, .ref y), (3, .int (nI tu)), (4, .int (v0)), (5, .int (mo))])
    (kk : ∀ (H1 : Heap) (locs1 : List Loc) (ls1 : Array Slot), Wo D T z (tu + 1) (n, w, P, Q, kp) H1 → Wo D T y (tu + 1) (n, w, P, Q, kp) H1 → va_S (fun q => s.heap.size ≤ q) s.heap H1 locs1 → lv_has ls1 6 [(0, .ref sb), (1, .ref z), (2, .ref y), (3, .int (nI tu)), (4, .int (v0)), (5, .int (mo))] → W p l e room_1 s m #[Value.ref sb] below meth c H1 locs1 600000 7302250 Qq (F0 m 141 ls1 [])) : W p l e room_1 s m #[Value.ref sb] below meth c H locs 600000 7302250 Qq (F0 m 63 ls []) := by
  have hx := C0.1.1
  have hb := C0.1.2.1
  have hbA : ¬ (fun q => s.heap.size ≤ q) sb := Nat.not_le.mpr hbl
  have hAz : ∀ q, Rg z q → (fun q => s.heap.size ≤ q) q := fun q h => Nat.le_trans hz h.1
  have hAy : ∀ q, Rg y q → (fun q => s.heap.size ≤ q) q := fun q h => Nat.le_trans (Nat.le_trans hz (by omega)) h.1
  have hap : ∀ q, Rg z q → ¬ Rg y q := fun q h1 h2 => by have := h1.2; have := h2.1; omega
  have hep := good_ep hG
  refine lv_aload_n hx hb dL_law_63 rfl (lv_at hl 1 rfl) ?_
  refine mo_callS (A1 := Rg z) (As := [.ref z]) (rest := []) (st1 := [.int (bI true)]) (Q := fun H => Wo D T z (tu + 1) (n, w, P, Q, kp) H) C0 (ctL_areQueues (t := tu + 1) (by omega) hG hE) (va_cwS 1 C0.1.2.2.2.2 gL_law_L_areQueues rfl rfl rfl (by decide +kernel) ⟨Nat.le_of_ble_eq_true rfl, Nat.le_of_ble_eq_true rfl⟩) hW hS hAz rfl rfl rfl hl.1 (Nat.le_of_ble_eq_true rfl) dL_law_64 ⟨Nat.le_of_ble_eq_true rfl, Nat.le_of_ble_eq_true rfl⟩ (fun H1 locs1 hW hF hS1 => ?_)
  replace hV := Wo_frame hV (fun q h1 h2 => hF.2 q h1 (fun z0 => hap q z0 h2))
  clear hS
  have hS := hS1
  clear hS1 hF
  refine lv_if_eq (tgt := 103) hx hb dL_law_67 (by decide) (fun c67 => absurd c67 (by decide)) (fun c67 => ?_)
  clear c67
  refine lv_aload_n hx hb dL_law_70 rfl (lv_at hl 1 rfl) ?_
  refine mo_callS (A1 := Rg z) (As := [.ref z]) (rest := []) (st1 := [.int (bI true)]) (Q := fun H => Wo D T z (tu + 1) (n, w, P, Q, kp) H) C0 (ctL_isNext (t := tu + 1) hG hE) (va_cwS 1 C0.1.2.2.2.2 gL_law_L_isNext rfl rfl rfl (by decide +kernel) ⟨Nat.le_of_ble_eq_true rfl, Nat.le_of_ble_eq_true rfl⟩) hW hS hAz rfl rfl rfl hl.1 (Nat.le_of_ble_eq_true rfl) dL_law_71 ⟨Nat.le_of_ble_eq_true rfl, Nat.le_of_ble_eq_true rfl⟩ (fun H1 locs1 hW hF hS1 => ?_)
  replace hV := Wo_frame hV (fun q h1 h2 => hF.2 q h1 (fun z0 => hap q z0 h2))
  clear hS
  have hS := hS1
  clear hS1 hF
  refine lv_if_eq (tgt := 103) hx hb dL_law_74 (by decide) (fun c74 => absurd c74 (by decide)) (fun c74 => ?_)
  clear c74
  refine lv_aload_n hx hb dL_law_77 rfl (lv_at hl 1 rfl) ?_
  refine lv_iload hx hb dL_law_78 (lv_at hl 5 rfl) ?_
  refine lv_iconst (v := nI 3) hx hb dL_law_80 (by decide) ?_
  refine lv_ishr hx hb dL_law_81 ?_
  refine lv_bipush (v := nI 6) hx hb dL_law_82 (by decide) ?_
  refine mo_callS (A1 := fun _ => False) (As := [.int ((mo) >>> ((nI 3) &&& 31)), .int (nI 6)]) (rest := [.ref z]) (st1 := [.int (nI (lowN ((mo) >>> ((nI 3) &&& 31)) 6)), .ref z]) (Q := fun _ => True) C0 (ctL_low (v := (mo) >>> ((nI 3) &&& 31)) (n := 6) (by decide) (by decide) (Pp := fun _ => True)) (va_cwS 2 C0.1.2.2.2.2 gL_law_L_low rfl rfl rfl (by decide +kernel) ⟨Nat.le_of_ble_eq_true rfl, Nat.le_of_ble_eq_true rfl⟩) trivial hS (fun _ h => absurd h id) rfl rfl rfl hl.1 (Nat.le_of_ble_eq_true rfl) dL_law_84 ⟨Nat.le_of_ble_eq_true rfl, Nat.le_of_ble_eq_true rfl⟩ (fun H1 locs1 hT hF hS1 => ?_)
  replace hW := Wo_frame hW (fun q h1 _ => hF.2 q h1 id)
  replace hV := Wo_frame hV (fun q h1 _ => hF.2 q h1 id)
  clear hT
  clear hS
  have hS := hS1
  clear hS1 hF
  refine lv_iload hx hb dL_law_87 (lv_at hl 5 rfl) ?_
  refine lv_bipush (v := nI 8) hx hb dL_law_89 (by decide) ?_
  refine lv_ishr hx hb dL_law_91 ?_
  refine lv_bipush (v := nI 6) hx hb dL_law_92 (by decide) ?_
  refine mo_callS (A1 := fun _ => False) (As := [.int ((mo) >>> ((nI 8) &&& 31)), .int (nI 6)]) (rest := [.int (nI (lowN ((mo) >>> ((nI 3) &&& 31)) 6)), .ref z]) (st1 := [.int (nI (lowN ((mo) >>> ((nI 8) &&& 31)) 6)), .int (nI (lowN ((mo) >>> ((nI 3) &&& 31)) 6)), .ref z]) (Q := fun _ => True) C0 (ctL_low (v := (mo) >>> ((nI 8) &&& 31)) (n := 6) (by decide) (by decide) (Pp := fun _ => True)) (va_cwS 2 C0.1.2.2.2.2 gL_law_L_low rfl rfl rfl (by decide +kernel) ⟨Nat.le_of_ble_eq_true rfl, Nat.le_of_ble_eq_true rfl⟩) trivial hS (fun _ h => absurd h id) rfl rfl rfl hl.1 (Nat.le_of_ble_eq_true rfl) dL_law_94 ⟨Nat.le_of_ble_eq_true rfl, Nat.le_of_ble_eq_true rfl⟩ (fun H1 locs1 hT hF hS1 => ?_)
  replace hW := Wo_frame hW (fun q h1 _ => hF.2 q h1 id)
  replace hV := Wo_frame hV (fun q h1 _ => hF.2 q h1 id)
  clear hT
  clear hS
  have hS := hS1
  clear hS1 hF
  refine mo_callS (A1 := Rg z) (As := [.ref z, .int (nI (lowN ((mo) >>> ((nI 3) &&& 31)) 6)), .int (nI (lowN ((mo) >>> ((nI 8) &&& 31)) 6))]) (rest := []) (st1 := [.int (bI true)]) (Q := fun H => Wo D T z (tu + 1) (n, w, P, Q, kp) H) C0 (ctL_isWitness (t := tu + 1) hG (Nat.lt_of_lt_of_le (lowN_lt _ (by decide)) (by decide)) (Nat.lt_of_lt_of_le (lowN_lt _ (by decide)) (by decide))) (va_cwS 3 C0.1.2.2.2.2 gL_law_L_isWitness rfl rfl rfl (by decide +kernel) ⟨Nat.le_of_ble_eq_true rfl, Nat.le_of_ble_eq_true rfl⟩) hW hS hAz rfl rfl rfl hl.1 (Nat.le_of_ble_eq_true rfl) dL_law_97 ⟨Nat.le_of_ble_eq_true rfl, Nat.le_of_ble_eq_true rfl⟩ (fun H1 locs1 hW hF hS1 => ?_)
  replace hV := Wo_frame hV (fun q h1 h2 => hF.2 q h1 (fun z0 => hap q z0 h2))
  clear hS
  have hS := hS1
  clear hS1 hF
  refine lv_if_ne (tgt := 105) hx hb dL_law_100 (by decide) (fun c100 => ?_) (fun c100 => absurd c100 (by decide))
  clear c100
  refine lv_iload_n hx hb dL_law_105 rfl (lv_at hl 3 rfl) ?_
  refine lv_iconst (v := nI 5) hx hb dL_law_106 (by decide) ?_
  refine lv_irem hx hb dL_law_107 (by decide) ?_
  refine mr_top (y := nI (tu % 5)) (pk_rem (show tu < 2 ^ 31 by omega) (by decide) (by decide)) ?_
  refine lv_iconst (v := nI 4) hx hb dL_law_108 (by decide) ?_
  refine mr_neN (x := tu % 5) (y := 4) (tgt := 141) C0 dL_law_109 (by decide) (by omega) (by omega) (fun c109 => absurd c109 (by omega)) (fun c109 => ?_)
  clear c109
  refine lv_aload_n hx hb dL_law_112 rfl (lv_at hl 1 rfl) ?_
  refine lv_iconst (v := -1) hx hb dL_law_113 (by decide) ?_
  refine mo_callS (A1 := Rg z) (As := [.ref z, .int (-1)]) (rest := []) (st1 := [.int (bI true)]) (Q := fun H => Wo D T z (tu + 1) (n, w, P, Q, kp) H) C0 (ctL_isOrder (t := tu + 1) (r0 := 176) hG (Or.inl ⟨rfl, rfl⟩)) (va_cwS 2 C0.1.2.2.2.2 gL_law_L_isOrder rfl rfl rfl (by decide +kernel) ⟨Nat.le_of_ble_eq_true rfl, Nat.le_of_ble_eq_true rfl⟩) hW hS hAz rfl rfl rfl hl.1 (Nat.le_of_ble_eq_true rfl) dL_law_114 ⟨Nat.le_of_ble_eq_true rfl, Nat.le_of_ble_eq_true rfl⟩ (fun H1 locs1 hW hF hS1 => ?_)
  replace hV := Wo_frame hV (fun q h1 h2 => hF.2 q h1 (fun z0 => hap q z0 h2))
  clear hS
  have hS := hS1
  clear hS1 hF
  refine lv_if_eq (tgt := 139) hx hb dL_law_117 (by decide) (fun c117 => absurd c117 (by decide)) (fun c117 => ?_)
  clear c117
  refine lv_aload_n hx hb dL_law_120 rfl (lv_at hl 1 rfl) ?_
  refine lv_iload hx hb dL_law_121 (lv_at hl 5 rfl) ?_
  refine lv_aload_n hx hb dL_law_123 rfl (lv_at hl 1 rfl) ?_
  refine lv_iconst (v := nI 5) hx hb dL_law_124 (by decide) ?_
  refine mo_call (x := z) (As := [.int (nI 5)]) (rest := [.int (mo), .ref z]) (st1 := [.int (fTold n w 5), .int (mo), .ref z]) C0 (op_told (by decide)) hW (fun rm x1 x2 x3 x4 => cwV 1 C0.1.2.2.2.2 gL_law_X3_told rfl x1 x2 (by decide +kernel) ⟨by show _ ≤ 10; omega, by show _ ≤ 384; omega⟩) hS hAz rfl rfl rfl hl.1 (Nat.le_of_ble_eq_true rfl) dL_law_125 ⟨Nat.le_of_ble_eq_true rfl, Nat.le_of_ble_eq_true rfl⟩ (fun H1 locs1 hW hF hS1 => ?_)
  replace hV := Wo_frame hV (fun q h1 h2 => hF.2 q h1 (fun z0 => hap q z0 h2))
  clear hS
  have hS := hS1
  clear hS1 hF
  refine mr_top (y := nI (epM w)) (rfl) ?_
  refine lv_iconst (v := nI 1) hx hb dL_law_128 (by decide) ?_
  refine mr_iaddN (z := (epM w) + 1) C0 (rfl) dL_law_129 ?_
  refine mo_callS (A1 := fun _ => False) (As := [.int (mo), .int (nI ((epM w) + 1))]) (rest := [.ref z]) (st1 := [.int (nI (lowN mo (epM w + 1))), .ref z]) (Q := fun _ => True) C0 (ctL_low (v := mo) (n := epM w + 1) (by omega) (by omega) (Pp := fun _ => True)) (va_cwS 2 C0.1.2.2.2.2 gL_law_L_low rfl rfl rfl (by decide +kernel) ⟨Nat.le_of_ble_eq_true rfl, Nat.le_of_ble_eq_true rfl⟩) trivial hS (fun _ h => absurd h id) rfl rfl rfl hl.1 (Nat.le_of_ble_eq_true rfl) dL_law_130 ⟨Nat.le_of_ble_eq_true rfl, Nat.le_of_ble_eq_true rfl⟩ (fun H1 locs1 hT hF hS1 => ?_)
  replace hW := Wo_frame hW (fun q h1 _ => hF.2 q h1 id)
  replace hV := Wo_frame hV (fun q h1 _ => hF.2 q h1 id)
  clear hT
  clear hS
  have hS := hS1
  clear hS1 hF
  refine mo_callS (A1 := Rg z) (As := [.ref z, .int (nI (lowN mo (epM w + 1)))]) (rest := []) (st1 := [.int (bI true)]) (Q := fun H => Wo D T z (tu + 1) (n, w, P, Q, kp) H) C0 (ctL_isOrder (t := tu + 1) (r0 := 185 + 8 * lowN mo (epM w + 1)) hG (Or.inr ⟨_, Nat.lt_succ_iff.mp (lowN_lt _ (Nat.succ_pos _)), rfl, rfl⟩)) (va_cwS 2 C0.1.2.2.2.2 gL_law_L_isOrder rfl rfl rfl (by decide +kernel) ⟨Nat.le_of_ble_eq_true rfl, Nat.le_of_ble_eq_true rfl⟩) hW hS hAz rfl rfl rfl hl.1 (Nat.le_of_ble_eq_true rfl) dL_law_133 ⟨Nat.le_of_ble_eq_true rfl, Nat.le_of_ble_eq_true rfl⟩ (fun H1 locs1 hW hF hS1 => ?_)
  replace hV := Wo_frame hV (fun q h1 h2 => hF.2 q h1 (fun z0 => hap q z0 h2))
  clear hS
  have hS := hS1
  clear hS1 hF
  refine lv_if_ne (tgt := 141) hx hb dL_law_136 (by decide) (fun c136 => ?_) (fun c136 => absurd c136 (by decide))
  clear c136
  exact kk _ _ _ hW hV hS (lv_sub hl [0, 1, 2, 3, 4, 5] rfl)
set_option maxHeartbeats 4000000 in
set_option maxRecDepth 100000 in
theorem law_end {p : Program} {l : Launch} {e : Env} {s : State} {m : MethodId} {below : List Frame} {meth : Method} {c : Code} {D : va_G} {T : Nat → ClassId} {sb z y N : Nat} {xs : Nat → Int32} {tu : Nat} {n : Nat} {w : Nat → Int32} {P Q : Nat → Nat → Int32} {kp : Nat → Bool} {H : Heap} {locs : List Loc} {ls : Array Slot} (C0 : Cx p s m #[Value.ref sb] c code 6 wsL_law RL D T) (hX : va_X sb N xs s s.heap) (hbl : sb < s.heap.size) (hN : N ≤ 260) (hz : s.heap.size ≤ z) (hzy : z + 1001 = y) (hr : meth.sig.returnType = ret) (hlocks : meth.locks = false) (hl40 : lgM w ≤ 40) (hW : Wo D T z 26 (n, w, P, Q, kp) H) (hV : Wo D T y 26 (n, w, P, Q, kp) H) (hS : va_S (fun q => s.heap.size ≤ q) s.heap H locs) (hl : lv_has ls 6 [(0, .ref sb), (1, .ref z), (2, .ref y), (3, .int (nI tu))]) : W p l e room_1 s m #[Value.ref sb] below meth c H locs 600000 7302250 (lw_Z below #[Value.ref sb] s) (F0 m 147 ls []) := by
  have hx := C0.1.1
  have hb := C0.1.2.1
  have hbA : ¬ (fun q => s.heap.size ≤ q) sb := Nat.not_le.mpr hbl
  have hAz : ∀ q, Rg z q → (fun q => s.heap.size ≤ q) q := fun q h => Nat.le_trans hz h.1
  have hAy : ∀ q, Rg y q → (fun q => s.heap.size ≤ q) q := fun q h => Nat.le_trans (Nat.le_trans hz (by omega)) h.1
  have hap : ∀ q, Rg z q → ¬ Rg y q := fun q h1 h2 => by have := h1.2; have := h2.1; omega
  refine lv_aload_n hx hb dL_law_147 rfl (lv_at hl 1 rfl) ?_
  refine lv_aload_n hx hb dL_law_148 rfl (lv_at hl 2 rfl) ?_
  refine mo_callS (A1 := (fun q => Rg z q ∨ Rg y q)) (As := [.ref z, .ref y]) (rest := []) (st1 := [.int (bI true)]) (Q := fun _ => True) C0 ((ctL_areAlike (t := 26) hap hl40).weak (fun _ h => h) rfl (fun _ _ => trivial)) (va_cwS 2 C0.1.2.2.2.2 gL_law_L_areAlike rfl rfl rfl (by decide +kernel) ⟨Nat.le_of_ble_eq_true rfl, Nat.le_of_ble_eq_true rfl⟩) ⟨hW, hV⟩ hS (fun q h => h.elim (hAz q) (hAy q)) rfl rfl rfl hl.1 (Nat.le_of_ble_eq_true rfl) dL_law_149 ⟨Nat.le_of_ble_eq_true rfl, Nat.le_of_ble_eq_true rfl⟩ (fun H1 locs1 hT hF hS1 => ?_)
  exact va_forget (fun q hq => hS1.2.2 q hq) (lw_ret hx hb hr hlocks dL_law_152)
set_option maxHeartbeats 4000000 in
set_option maxRecDepth 100000 in
theorem law_loop {p : Program} {l : Launch} {e : Env} {s : State} {m : MethodId} {below : List Frame} {meth : Method} {c : Code} {D : va_G} {T : Nat → ClassId} {sb z y N : Nat} {xs : Nat → Int32} (C0 : Cx p s m #[Value.ref sb] c code 6 wsL_law RL D T) (hX : va_X sb N xs s s.heap) (hbl : sb < s.heap.size) (hN : N ≤ 260) (hz : s.heap.size ≤ z) (hzy : z + 1001 = y) (hr : meth.sig.returnType = ret) (hlocks : meth.locks = false) :
    ∀ (r tu : Nat) (S : abS) (H : Heap) (locs : List Loc) (ls : Array Slot), tu + r = 26 → tu ≤ 26 → ExS S → Wo D T z tu S H → Wo D T y tu S H → va_S (fun q => s.heap.size ≤ q) s.heap H locs → lv_has ls 6 [(0, .ref sb), (1, .ref z), (2, .ref y), (3, .int (nI tu))] → W p l e room_1 s m #[Value.ref sb] below meth c H locs 600000 7302250 (lw_Z below #[Value.ref sb] s) (F0 m 18 ls []) := by
  have hx := C0.1.1
  have hb := C0.1.2.1
  have hbA : ¬ (fun q => s.heap.size ≤ q) sb := Nat.not_le.mpr hbl
  have hAz : ∀ q, Rg z q → (fun q => s.heap.size ≤ q) q := fun q h => Nat.le_trans hz h.1
  have hAy : ∀ q, Rg y q → (fun q => s.heap.size ≤ q) q := fun q h => Nat.le_trans (Nat.le_trans hz (by omega)) h.1
  have hap : ∀ q, Rg z q → ¬ Rg y q := fun q h1 h2 => by have := h1.2; have := h2.1; omega
  intro r
  induction r with
  | zero =>
    intro tu S H locs ls hk ht hE hW hV hS hl
    have e : tu = 26 := by omega
    subst e
    obtain ⟨n, w, P, Q, kp⟩ := S
    refine lv_iload_n hx hb dL_law_18 rfl (lv_at hl 3 rfl) ?_
    refine lv_bipush (v := nI 26) hx hb dL_law_19 (by decide) ?_
    refine mr_geN (x := 26) (y := 26) (tgt := 147) C0 dL_law_21 (by decide) (by omega) (by omega) (fun c => ?_) (fun c => absurd c (by omega))
    exact law_end C0 hX hbl hN hz hzy hr hlocks (Wo_GG hW).2.1.1.2.2.2.2.2 hW hV hS hl
  | succ r ih =>
    intro tu S H locs ls hk ht hE hW hV hS hl
    have ht26 : tu < 26 := by omega
    refine lv_iload_n hx hb dL_law_18 rfl (lv_at hl 3 rfl) ?_
    refine lv_bipush (v := nI 26) hx hb dL_law_19 (by decide) ?_
    refine mr_geN (x := tu) (y := 26) (tgt := 147) C0 dL_law_21 (by decide) (by omega) (by omega) (fun h => absurd h (by omega)) (fun _ => ?_)
    refine law_t1 C0 hX hbl hN hz hzy ht26 hW hV hS hl (fun H1 locs1 ls1 hW1 hV1 hS1 hl1 => ?_)
    have hE1 : ExS (chR tu S (clV xs N (2 * tu)) (clV xs N (2 * tu + 1))).2 := by
      obtain ⟨n, w, P, Q, kp⟩ := S
      exact chR_ex (by omega) (Wo_GG hW) hE
    generalize (chR tu S (clV xs N (2 * tu)) (clV xs N (2 * tu + 1))).2 = S1 at hW1 hV1 hE1
    generalize clV xs N (2 * tu) = v0 at hl1
    generalize clV xs N (2 * tu + 1) = mo at hl1
    obtain ⟨n, w, P, Q, kp⟩ := S1
    have hG1 := (Wo_GG hW1).2.1
    have go : ∀ (H4 : Heap) (locs4 : List Loc) (ls4 : Array Slot), Wo D T z (tu + 1) (n, w, P, Q, kp) H4 → Wo D T y (tu + 1) (n, w, P, Q, kp) H4 → va_S (fun q => s.heap.size ≤ q) s.heap H4 locs4 → lv_has ls4 6 [(0, .ref sb), (1, .ref z), (2, .ref y), (3, .int (nI tu)), (4, .int (v0)), (5, .int (mo))] → W p l e room_1 s m #[Value.ref sb] below meth c H4 locs4 600000 7302250 (lw_Z below #[Value.ref sb] s) (F0 m 141 ls4 []) := by
      intro H4 locs4 ls hW4 hV4 hS4 hl
      have hE4 := hE1
      refine lv_iinc (k := 3) (v := nI (tu + 1)) (lv' := [(3, .int (nI (tu + 1))), (0, .ref sb), (1, .ref z), (2, .ref y), (4, .int (v0)), (5, .int (mo))]) hx hb dL_law_141 hl rfl (by rw [show Int32.ofInt 1 = nI 1 from by decide, nI_add]) (by decide) rfl (fun ls hl => ?_)
      refine lv_goto (tgt := 18) hx hb dL_law_144 (by decide) ?_
      exact ih (tu + 1) _ H4 locs4 _ (by omega) (by omega) hE4 hW4 hV4 hS4 (lv_sub hl [1, 2, 3, 0] rfl)
    by_cases h5 : tu % 5 = 4
    · exact law_t2y C0 hX hbl hN hz hzy ht26 hG1 hE1.1 h5 hW1 hV1 hS1 hl1 go
    · exact law_t2n C0 hX hbl hN hz hzy ht26 hG1 hE1.1 h5 hW1 hV1 hS1 hl1 go
