/-! part 71: low, cell -/
set_option maxHeartbeats 4000000 in
set_option maxRecDepth 100000 in
theorem ctL_low {l : Launch} {D : va_G} {T : Nat → ClassId} {A : Nat → Prop} {v : Int32} {n : Nat} (h0 : 0 < n) (hn : n < 2 ^ 31) {Pp : Heap → Prop} :
    Ct l yL_low wsL_low { frames := 0, cells := 0, slots := 0, locals := 0 } 0 0 D T A [.int v, .int (nI n)] Pp (some (.int (nI (lowN v n)))) Pp := by
  refine Ct.ofW (cc := cL_low) (maxL := 2) (ret := (some .int)) (by decide) rfl (Nat.le_of_ble_eq_true rfl) ?_
  intro p_ e_ s_ m_ args_ below_ meth_ c_ ls R Qq hR hQ C0 hr hlk hname hP hl
  have hx := C0.1.1
  have hb := C0.1.2.1
  have hS : va_S A s_.heap s_.heap [] := va_S.rf
  have hl : lv_has ls 2 [(0, .int v), (1, .int (nI n))] := hl
  obtain ⟨e1, e2⟩ := low_eq v
  refine lv_iload_n hx hb dL_low_0 rfl (lv_at hl 0 rfl) ?_
  refine lv_ldc (v := 2147483647) hx hb C0.1.2.2.2.1 (C0.1.2.2.2.2 _ (List.mem_of_getElem? (i := 1) rfl)) dL_low_1 ?_
  refine lv_iand hx hb dL_low_3 ?_
  refine mr_top (y := nI (v &&& 2147483647).toNatClampNeg) e1 ?_
  refine lv_iload_n hx hb dL_low_4 rfl (lv_at hl 1 rfl) ?_
  refine lv_irem hx hb dL_low_5 (nI_ne0 h0 hn) ?_
  refine mr_top (y := nI (lowN v n)) (pk_rem e2 h0 hn) ?_
  exact mr_iret (v := nI (lowN v n)) C0 hr hlk hQ hS rfl hP (Nat.le_refl _) (Nat.le_refl _) dL_low_6
/-- what cell answers: an int of the script, or behind its end a number of its own -/
def clV (xs : Nat → Int32) (N k : Nat) : Int32 := if k < N then xs k else 747796405 * (nI (k + 1))
def cl_P (sb N k : Nat) (xs : Nat → Int32) (D : va_G) (T : Nat → ClassId) (Pp : Heap → Prop) : Array Value → State → Prop := va_Pc [.ref sb, .int (nI k)] (fun U => va_X sb N xs U U.heap ∧ sb < U.heap.size ∧ Pp U.heap ∧ Kx D T U)
theorem cl_blind {sb N k : Nat} {xs : Nat → Int32} {D : va_G} {T : Nat → ClassId} {Pp : Heap → Prop} : FrameBlind (cl_P sb N k xs D T Pp) := fun a U g mk q => ⟨q.1, va_X.moved (u := U) (Vm.Alike.refl U.vm) q.2.1, q.2.2.1, q.2.2.2.1, Kx.same (u := U) rfl q.2.2.2.2⟩
set_option maxHeartbeats 4000000 in
set_option maxRecDepth 100000 in
theorem ctL_cell {l : Launch} {D : va_G} {T : Nat → ClassId} {sb N k : Nat} {xs : Nat → Int32} (hN : N < 2 ^ 31) (hk : k < 1000) {Pp : Heap → Prop} :
    Met l yL_cell wsL_cell { frames := 0, cells := 0, slots := 0, locals := 0 } (cl_P sb N k xs D T Pp) (CtQ (fun _ => False) (some (.int (clV xs N k))) Pp) 0 0 (fun _ => False) := by
  refine Met.ofW (cc := cL_cell) (maxL := 2) (ret := (some .int)) (by decide) rfl ?_
  intro p e s m args below meth c s1 B hml hv
  obtain ⟨rfl, hX, hbl, hP, hK⟩ := hv
  have hl := lv_entry [.ref sb, .int (nI k)] (n := 2) (Nat.le_of_ble_eq_true rfl)
  rw [lg_entry_eq]
  have C0 : Cx p s m _ c cL_cell 2 wsL_cell RL D T := ⟨⟨B.exec, B.bytes, hml, findClass_of_methodNamed B.named, atoms_spec (ws := wsL_cell) B.pre⟩, hK⟩
  have hr := B.returns
  have hlk := B.notSynchronized
  generalize (lg_sl [Value.ref sb, .int (nI k)] ++ List.replicate (2 - (lg_sl [Value.ref sb, .int (nI k)]).length) Slot.unset).toArray = ls at hl ⊢
  have hl : lv_has ls 2 [(0, .ref sb), (1, .int (nI k))] := hl
  have hx := C0.1.1
  have hb := C0.1.2.1
  have hS : va_S (fun _ => False) s.heap s.heap [] := va_S.rf
  have hbA : ¬ (fun _ : Nat => False) sb := fun h => h
  refine lv_iload_n hx hb dL_cell_0 rfl (lv_at hl 1 rfl) ?_
  refine lv_aload_n hx hb dL_cell_1 rfl (lv_at hl 0 rfl) ?_
  refine va_slen hx hb hX hbl hbA hS dL_cell_2 ?_
  refine mr_geN (x := k) (y := N) (tgt := 12) C0 dL_cell_3 (by decide) (by omega) hN (fun c => ?_) (fun c => ?_)
  · refine lv_ldc (v := 747796405) hx hb C0.1.2.2.2.1 (C0.1.2.2.2.2 _ (List.mem_of_getElem? (i := 1) rfl)) dL_cell_12 ?_
    refine lv_iload_n hx hb dL_cell_14 rfl (lv_at hl 1 rfl) ?_
    refine lv_iconst (v := nI 1) hx hb dL_cell_15 (by decide) ?_
    refine mr_iaddN (z := k + 1) C0 rfl dL_cell_16 ?_
    refine lv_imul hx hb dL_cell_17 ?_
    exact mr_iret (A := fun _ => False) (V := some (.int (clV xs N k))) (Q := Pp) C0 hr hlk rfl hS (by unfold clV; rw [if_neg (Nat.not_lt.mpr c)]) hP (Nat.le_refl _) (Nat.le_refl _) dL_cell_18
  · refine lv_aload_n hx hb dL_cell_6 rfl (lv_at hl 0 rfl) ?_
    refine lv_iload_n hx hb dL_cell_7 rfl (lv_at hl 1 rfl) ?_
    refine va_sld hx hb hX hbl hbA hS (vp_in_nI (show k < N by omega) hN) dL_cell_8 ?_
    refine lv_goto (tgt := 18) hx hb dL_cell_9 (by decide) ?_
    exact mr_iret (A := fun _ => False) (V := some (.int (clV xs N k))) (Q := Pp) C0 hr hlk rfl hS (by unfold clV; rw [if_pos c, nI_clamp (by omega)]) hP (Nat.le_refl _) (Nat.le_refl _) dL_cell_18
