/-! part 82: from the entry to the loop -/
set_option maxHeartbeats 4000000 in
set_option maxRecDepth 100000 in
theorem whole_start {p : Program} {e : Env} {s : State} {m : MethodId} {below : List Frame} {meth : Method} {c : Code} (l : Launch) (hflags : l.flags = flags0) {b L : Nat} {xs : Nat → Int32} (hL : L ≤ 260) (C0 : lw_At p s m meth c b L xs) : W p l e room_1 s m #[Value.ref b] below meth c s.heap [] 0 0 (lw_Z below #[Value.ref b] s) (entryFrame m ([Value.ref b] : List Value).toArray 6) := by
  obtain ⟨hx, hb, hr, hml, hown, hts, hX, hbl, hlocks, -⟩ := C0
  obtain ⟨D, T, hK⟩ := kx_start hts
  have C1 : Cx p s m #[Value.ref b] c code 6 wsL_law RL D T := ⟨⟨hx, hb, hml, hown, fun w h => hts w (wsL_law_in w h)⟩, hK⟩
  have hl := lv_entry ([.ref b]) (n := 6) (Nat.le_of_ble_eq_true rfl)
  rw [lg_entry_eq]
  generalize hls : (lg_sl [Value.ref b] ++ List.replicate (6 - (lg_sl [Value.ref b]).length) Slot.unset).toArray = ls at hl ⊢
  clear hls
  have hl0 : lv_has ls 6 [(0, .ref b)] := hl
  have hts1 := C1.1.2.2.2.2
  have hM : hm D T (rg s.heap.size s.heap.size) (fun q => s.heap.size ≤ q) (fun _ => kO 3 []) (fun _ _ => 0) (fun _ _ => 0) s.heap := hm_nil
  have hS : va_S (fun q => s.heap.size ≤ q) s.heap s.heap [] := ⟨Nat.le_refl _, fun q _ _ => rfl, fun l h => by cases h⟩
  have hA : ∀ q, s.heap.size ≤ q → (fun q => s.heap.size ≤ q) q := fun q h => h
  have hz : s.heap.size = s.heap.size := rfl
  revert hM hS hA hz
  generalize hzz : s.heap.size = z
  intro hM hS hA hz
  refine mz_newO (C := RX3) (TT := TX3) (N := 7) (ci := 3) (fs := [some none, some none, some none, none, some none, some none, some none]) C1 x3_in tyX3 tyX3_ok (r1_in _ (List.mem_of_getElem? (i := 0) rfl)) (r1_in _ (List.mem_of_getElem? (i := 1) rfl)) (r1_in _ (List.mem_of_getElem? (i := 2) rfl)) hM hzz (Nat.le_refl _) hS hA rfl (by decide) (by show _ ≤ 600000; omega) (by show _ ≤ 7302250; omega) dL_law_0 (fun H1 hM1 hS1 hz1 => ?_)
  refine lv_dup hx hb dL_law_3 rfl ?_
  refine mr_callI (As := []) (rest := [.ref z]) C1 (ctX3_init (B := z) (x := z) (Nat.le_refl _) hA (va_up_self _ _ _) (fun k => by rw [va_up_self])) (cwI 0 hts1 gL_law_X3_init rfl rfl rfl (hts1 _ (r1_in _ (List.mem_of_getElem? (i := 2) rfl))) (hts1 _ (r1_in _ (List.mem_of_getElem? (i := 3) rfl))) (hts1 _ (r1_in _ (List.mem_of_getElem? (i := 4) rfl))) rfl (by decide +kernel) ⟨Nat.le_of_ble_eq_true rfl, Nat.le_of_ble_eq_true rfl⟩) ⟨hM1, hz1⟩ hS1 rfl rfl hl0.1 (Nat.le_of_ble_eq_true rfl) dL_law_4 ⟨by show _ ≤ 600000; omega, by show _ ≤ 7302250; omega⟩ (fun H2 locs2 hP2 hS2 => ?_)
  obtain ⟨Sh2, I2, J2, ⟨hM2, hz2⟩, hX3⟩ := hP2
  have hW2 := Wo_new hM2 hX3
  refine lv_astore_n (lv' := [(1, .ref z), (0, .ref b)]) hx hb dL_law_7 rfl hl0 (by decide) rfl (fun ls1 hl1 => ?_)
  refine va_forget (fun q hq => by have := hS2.2.2 q hq; omega) ?_
  have hA2 : ∀ q, z + 1001 ≤ q → (fun q => z + 1001 ≤ q) q := fun q h => h
  refine mz_newO (C := RX3) (TT := TX3) (N := 7) (ci := 3) (B := z + 1001) (H0 := H2) (A := fun q => z + 1001 ≤ q) (Sh := fun _ => kO 3 []) (I := fun _ _ => 0) (J := fun _ _ => 0) (fs := [some none, some none, some none, none, some none, some none, some none]) C1 x3_in tyX3 tyX3_ok (r1_in _ (List.mem_of_getElem? (i := 0) rfl)) (r1_in _ (List.mem_of_getElem? (i := 1) rfl)) (r1_in _ (List.mem_of_getElem? (i := 2) rfl)) hm_nil hz2 (Nat.le_refl _) va_S.rf hA2 rfl (by decide) (by show _ ≤ 600000; omega) (by show _ ≤ 7302250; omega) dL_law_8 (fun H3 hM3 hS3 hz3 => ?_)
  refine lv_dup hx hb dL_law_11 rfl ?_
  refine mr_callI (As := []) (rest := [.ref (z + 1001)]) C1 (ctX3_init (B := z + 1001) (x := z + 1001) (Nat.le_refl _) hA2 (va_up_self _ _ _) (fun k => by rw [va_up_self])) (cwI 0 hts1 gL_law_X3_init rfl rfl rfl (hts1 _ (r1_in _ (List.mem_of_getElem? (i := 2) rfl))) (hts1 _ (r1_in _ (List.mem_of_getElem? (i := 3) rfl))) (hts1 _ (r1_in _ (List.mem_of_getElem? (i := 4) rfl))) rfl (by decide +kernel) ⟨Nat.le_of_ble_eq_true rfl, Nat.le_of_ble_eq_true rfl⟩) ⟨hM3, hz3⟩ hS3 rfl rfl hl1.1 (Nat.le_of_ble_eq_true rfl) dL_law_12 ⟨by show _ ≤ 600000; omega, by show _ ≤ 7302250; omega⟩ (fun H4 locs4 hP4 hS4 => ?_)
  obtain ⟨Sh4, I4, J4, ⟨hM4, hz4⟩, hX4⟩ := hP4
  have hV4 := Wo_new hM4 hX4
  have fr : ∀ q, q < z + 1001 → H4[q]? = H2[q]? := fun q hq => hS4.2.1 q (by omega) (Nat.not_le.mpr hq)
  have hW4 := Wo_frame hW2 (fun q _ h2 => fr q h2.2)
  refine lv_astore_n (lv' := [(2, .ref (z + 1001)), (1, .ref z), (0, .ref b)]) hx hb dL_law_15 rfl hl1 (by decide) rfl (fun ls2 hl2 => ?_)
  refine va_forget (fun q hq => by have := hS4.2.2 q hq; omega) ?_
  have hS5 : va_S (fun q => s.heap.size ≤ q) s.heap H4 [] := by
    rw [hzz]
    refine ⟨by omega, fun q h1 h2 => ?_, fun l h => by cases h⟩
    rw [fr q (by omega)]
    exact hS2.2.1 q h1 h2
  refine lv_iconst (v := nI 0) hx hb dL_law_16 (by decide) ?_
  refine lv_istore_n (lv' := [(3, .int (nI 0)), (2, .ref (z + 1001)), (1, .ref z), (0, .ref b)]) hx hb dL_law_17 rfl hl2 (by decide) rfl (fun ls3 hl3 => ?_)
  refine W.widen (k := 600000) (n := 7302250) (by omega) (by omega) ?_
  exact law_loop C1 hX hbl hL (by omega) rfl hr hlocks 26 0 S00 H4 [] ls3 rfl (Nat.zero_le _) ExS_00 hW4 hV4 hS5 (lv_sub hl3 [3, 2, 1, 0] rfl)
