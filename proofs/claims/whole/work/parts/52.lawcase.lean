/-! part 52: the law's cases (laid by wip/whole/law1.py) -/
theorem inv_x {L : List Nat} {x b t : Nat} {Sh : hm_S} {I : hm_I} (h : Inv L x b t Sh I) : ∃ fs, x ∈ L ∧ Sh x = kO 3 fs := by
  obtain ⟨p, f, h, m, k, j, hs, im, n, w, P, Q, kp, g⟩ := h
  exact ⟨_, g.1.1.1, g.1.1.2⟩
theorem inv_m {L : List Nat} {x b t : Nat} {Sh : hm_S} {I : hm_I} (h : Inv L x b t Sh I) : ∃ fs, b ∈ L ∧ Sh b = kO 4 fs := by
  obtain ⟨p, f, h, m, k, j, hs, im, n, w, P, Q, kp, g⟩ := h
  exact ⟨_, g.2.2.1.1.1, g.2.2.1.1.2⟩
theorem Inv_up {L : List Nat} {x b t : Nat} {Sh : hm_S} {I : hm_I} (h : Inv L x b t Sh I) : Inv L x b (t + 1) Sh I := by
  obtain ⟨p, f, h, m, k, j, hs, im, n, w, P, Q, kp, g⟩ := h
  exact Inv_s g
/-- an argument out of the script -/
theorem law_arg {p : Program} {l : Launch} {e : Env} {R : Room} {s : State} {m : MethodId} {args : Array Value} {below : List Frame} {meth : Method} {c : Code} {H : Heap} {locs : List Loc} {cells slots : Nat} {Qq : State → Prop} {A : Nat → Prop} {ls : Array Slot} {rest : List Value} {sb N i k pc : Nat} {xs : Nat → Int32} {lv : List (Nat × Value)} {kk : Int}
    (hx : p.tables.exec = Jvm.exec) (hb : c.code = code) (hX : va_X sb N xs s s.heap) (hbl : sb < s.heap.size) (hbA : ¬ A sb) (hS : va_S A s.heap H locs) (hN : N ≤ 2048) (hl : lv_has ls 4 lv) (h0 : lv[0]? = some (0, .ref sb)) (h3 : lv[3]? = some (3, .int (nI i))) (hv : Int32.ofInt kk = nI k) (hi : i + k < N)
    (d0 : decode code pc = .ok (.aload_n 0, 1)) (d1 : decode code (pc + 1) = .ok (.iload_n 3, 1)) (d2 : decode code (pc + 2) = .ok (.iconst kk, 1)) (d3 : decode code (pc + 3) = .ok (.iadd, 1)) (d4 : decode code (pc + 4) = .ok (.iaload, 1))
    (go : W p l e R s m args below meth c H locs cells slots Qq (F0 m (pc + 5) ls (.int (xs (i + k)) :: rest))) : W p l e R s m args below meth c H locs cells slots Qq (F0 m pc ls rest) := by
  refine lv_aload_n hx hb d0 rfl (lv_at hl 0 h0) ?_
  refine lv_iload_n hx hb d1 rfl (lv_at hl 3 h3) ?_
  refine lv_iconst (v := nI k) hx hb d2 hv ?_
  refine lv_iadd hx hb d3 (mr_top (nI_add i k) ?_)
  refine va_sld hx hb hX hbl hbA hS (vp_in_nI hi (by omega)) d4 ?_
  rw [nI_clamp (show i + k < 2 ^ 31 by omega)]
  exact go
set_option maxHeartbeats 4000000 in
set_option maxRecDepth 100000 in
theorem law_c0 {p : Program} {l : Launch} {e : Env} {s : State} {m : MethodId} {below : List Frame} {meth : Method} {c : Code} {D : va_G} {T : Nat → ClassId} {L : List Nat} {A : Nat → Prop} {sb x b N i t : Nat} {xs : Nat → Int32} {Sh : hm_S} {I : hm_I} {J : hm_J} {H : Heap} {locs : List Loc} {ls : Array Slot} {Qq : State → Prop} (C0 : Cx p s m #[Value.ref sb] c code 4 wsL_law RL D T) (hX : va_X sb N xs s s.heap) (hbl : sb < s.heap.size) (hbA : ¬ A sb) (hN : N ≤ 2048) (hM : hm D T L A Sh I J H) (hS : va_S A s.heap H locs) (hI : Inv L x b t Sh I) (ht : t < 1000) (hi : i + 3 < N) (hl : lv_has ls 4 [(0, .ref sb), (1, .ref x), (2, .ref b), (3, .int (nI i))])
    (kk : ∀ (H1 : Heap) (locs1 : List Loc) (Sh1 : hm_S) (I1 : hm_I) (J1 : hm_J), hm D T L A Sh1 I1 J1 H1 → va_S A s.heap H1 locs1 → Inv L x b (t + 1) Sh1 I1 → W p l e room_1 s m #[Value.ref sb] below meth c H1 locs1 600000 7302250 Qq (F0 m 699 ls [])) : W p l e room_1 s m #[Value.ref sb] below meth c H locs 600000 7302250 Qq (F0 m 128 ls []) := by
  have hx := C0.1.1
  have hb := C0.1.2.1
  obtain ⟨v, Sh1, I1, J1, I2, J2, ⟨iv, rfl⟩, ⟨rX, x1, x2, x3, x4, hcX⟩, ⟨rM, y1, y2, y3, y4, hcM⟩, hI'⟩ := op_open (xs (i + 1)) (xs (i + 2)) l D T L A x b t Sh I J ht hI
  obtain ⟨fx, bx, sx⟩ := inv_x hI
  obtain ⟨fm, bm, sm⟩ := inv_m hI'
  refine lv_aload_n hx hb dL_law_128 rfl (lv_at hl 1 rfl) ?_
  refine law_arg hx hb hX hbl hbA hS hN hl rfl rfl (k := 1) (by decide) (by omega) dL_law_129 dL_law_130 dL_law_131 dL_law_132 dL_law_133 ?_
  refine law_arg hx hb hX hbl hbA hS hN hl rfl rfl (k := 2) (by decide) (by omega) dL_law_134 dL_law_135 dL_law_136 dL_law_137 dL_law_138 ?_
  refine mr_callV (As := [.int (xs (i + 1)), .int (xs (i + 2))]) (rest := []) (st1 := [.int iv]) C0 hcX (cwV 2 C0.1.2.2.2.2 gL_law_X3_open rfl x1 x2 (by decide +kernel) ⟨by show _ ≤ 10; omega, by show _ ≤ 366; omega⟩) hM bx sx rfl rfl hM hS rfl rfl rfl hl.1 (Nat.le_of_ble_eq_true rfl) dL_law_139 ⟨Nat.le_of_ble_eq_true rfl, Nat.le_of_ble_eq_true rfl⟩ (fun H1 locs1 hM1 hS1 => ?_)
  refine lv_aload_n hx hb dL_law_142 rfl (lv_at hl 2 rfl) ?_
  refine law_arg hx hb hX hbl hbA hS1 hN hl rfl rfl (k := 1) (by decide) (by omega) dL_law_143 dL_law_144 dL_law_145 dL_law_146 dL_law_147 ?_
  refine law_arg hx hb hX hbl hbA hS1 hN hl rfl rfl (k := 2) (by decide) (by omega) dL_law_148 dL_law_149 dL_law_150 dL_law_151 dL_law_152 ?_
  refine mr_callV (As := [.int (xs (i + 1)), .int (xs (i + 2))]) (rest := [.int iv]) (st1 := [.int iv, .int iv]) C0 hcM (cwV 2 C0.1.2.2.2.2 gL_law_X4_open rfl y1 y2 (by decide +kernel) ⟨by show _ ≤ 10; omega, by show _ ≤ 366; omega⟩) hM1 bm sm rfl rfl hM1 hS1 rfl rfl rfl hl.1 (Nat.le_of_ble_eq_true rfl) dL_law_153 ⟨Nat.le_of_ble_eq_true rfl, Nat.le_of_ble_eq_true rfl⟩ (fun H2 locs2 hM2 hS2 => ?_)
  refine lv_icmp_eq (tgt := 699) hx hb dL_law_156 (by decide) (fun _ => ?_) (fun h => absurd rfl h)
  exact kk H2 locs2 Sh1 I2 J2 hM2 hS2 hI'
set_option maxHeartbeats 4000000 in
set_option maxRecDepth 100000 in
theorem law_c1 {p : Program} {l : Launch} {e : Env} {s : State} {m : MethodId} {below : List Frame} {meth : Method} {c : Code} {D : va_G} {T : Nat → ClassId} {L : List Nat} {A : Nat → Prop} {sb x b N i t : Nat} {xs : Nat → Int32} {Sh : hm_S} {I : hm_I} {J : hm_J} {H : Heap} {locs : List Loc} {ls : Array Slot} {Qq : State → Prop} (C0 : Cx p s m #[Value.ref sb] c code 4 wsL_law RL D T) (hX : va_X sb N xs s s.heap) (hbl : sb < s.heap.size) (hbA : ¬ A sb) (hN : N ≤ 2048) (hM : hm D T L A Sh I J H) (hS : va_S A s.heap H locs) (hI : Inv L x b t Sh I) (ht : t < 1000) (hi : i + 3 < N) (hl : lv_has ls 4 [(0, .ref sb), (1, .ref x), (2, .ref b), (3, .int (nI i))])
    (kk : ∀ (H1 : Heap) (locs1 : List Loc) (Sh1 : hm_S) (I1 : hm_I) (J1 : hm_J), hm D T L A Sh1 I1 J1 H1 → va_S A s.heap H1 locs1 → Inv L x b (t + 1) Sh1 I1 → W p l e room_1 s m #[Value.ref sb] below meth c H1 locs1 600000 7302250 Qq (F0 m 699 ls [])) : W p l e room_1 s m #[Value.ref sb] below meth c H locs 600000 7302250 Qq (F0 m 161 ls []) := by
  have hx := C0.1.1
  have hb := C0.1.2.1
  obtain ⟨v, Sh1, I1, J1, I2, J2, ⟨iv, rfl⟩, ⟨rX, x1, x2, x3, x4, hcX⟩, ⟨rM, y1, y2, y3, y4, hcM⟩, hI'⟩ := op_close (xs (i + 1)) l D T L A x b t Sh I J ht hI
  obtain ⟨fx, bx, sx⟩ := inv_x hI
  obtain ⟨fm, bm, sm⟩ := inv_m hI'
  refine lv_aload_n hx hb dL_law_161 rfl (lv_at hl 1 rfl) ?_
  refine law_arg hx hb hX hbl hbA hS hN hl rfl rfl (k := 1) (by decide) (by omega) dL_law_162 dL_law_163 dL_law_164 dL_law_165 dL_law_166 ?_
  refine mr_callV (As := [.int (xs (i + 1))]) (rest := []) (st1 := [.int iv]) C0 hcX (cwV 1 C0.1.2.2.2.2 gL_law_X3_close rfl x1 x2 (by decide +kernel) ⟨by show _ ≤ 10; omega, by show _ ≤ 366; omega⟩) hM bx sx rfl rfl hM hS rfl rfl rfl hl.1 (Nat.le_of_ble_eq_true rfl) dL_law_167 ⟨Nat.le_of_ble_eq_true rfl, Nat.le_of_ble_eq_true rfl⟩ (fun H1 locs1 hM1 hS1 => ?_)
  refine lv_aload_n hx hb dL_law_170 rfl (lv_at hl 2 rfl) ?_
  refine law_arg hx hb hX hbl hbA hS1 hN hl rfl rfl (k := 1) (by decide) (by omega) dL_law_171 dL_law_172 dL_law_173 dL_law_174 dL_law_175 ?_
  refine mr_callV (As := [.int (xs (i + 1))]) (rest := [.int iv]) (st1 := [.int iv, .int iv]) C0 hcM (cwV 1 C0.1.2.2.2.2 gL_law_X4_close rfl y1 y2 (by decide +kernel) ⟨by show _ ≤ 10; omega, by show _ ≤ 366; omega⟩) hM1 bm sm rfl rfl hM1 hS1 rfl rfl rfl hl.1 (Nat.le_of_ble_eq_true rfl) dL_law_176 ⟨Nat.le_of_ble_eq_true rfl, Nat.le_of_ble_eq_true rfl⟩ (fun H2 locs2 hM2 hS2 => ?_)
  refine lv_icmp_eq (tgt := 699) hx hb dL_law_179 (by decide) (fun _ => ?_) (fun h => absurd rfl h)
  exact kk H2 locs2 Sh1 I2 J2 hM2 hS2 hI'
set_option maxHeartbeats 4000000 in
set_option maxRecDepth 100000 in
theorem law_c2 {p : Program} {l : Launch} {e : Env} {s : State} {m : MethodId} {below : List Frame} {meth : Method} {c : Code} {D : va_G} {T : Nat → ClassId} {L : List Nat} {A : Nat → Prop} {sb x b N i t : Nat} {xs : Nat → Int32} {Sh : hm_S} {I : hm_I} {J : hm_J} {H : Heap} {locs : List Loc} {ls : Array Slot} {Qq : State → Prop} (C0 : Cx p s m #[Value.ref sb] c code 4 wsL_law RL D T) (hX : va_X sb N xs s s.heap) (hbl : sb < s.heap.size) (hbA : ¬ A sb) (hN : N ≤ 2048) (hM : hm D T L A Sh I J H) (hS : va_S A s.heap H locs) (hI : Inv L x b t Sh I) (ht : t < 1000) (hi : i + 3 < N) (hl : lv_has ls 4 [(0, .ref sb), (1, .ref x), (2, .ref b), (3, .int (nI i))])
    (kk : ∀ (H1 : Heap) (locs1 : List Loc) (Sh1 : hm_S) (I1 : hm_I) (J1 : hm_J), hm D T L A Sh1 I1 J1 H1 → va_S A s.heap H1 locs1 → Inv L x b (t + 1) Sh1 I1 → W p l e room_1 s m #[Value.ref sb] below meth c H1 locs1 600000 7302250 Qq (F0 m 699 ls [])) : W p l e room_1 s m #[Value.ref sb] below meth c H locs 600000 7302250 Qq (F0 m 184 ls []) := by
  have hx := C0.1.1
  have hb := C0.1.2.1
  obtain ⟨v, Sh1, I1, J1, I2, J2, ⟨iv, rfl⟩, ⟨rX, x1, x2, x3, x4, hcX⟩, ⟨rM, y1, y2, y3, y4, hcM⟩, hI'⟩ := op_setWeight (xs (i + 1)) (xs (i + 2)) l D T L A x b t Sh I J ht hI
  obtain ⟨fx, bx, sx⟩ := inv_x hI
  obtain ⟨fm, bm, sm⟩ := inv_m hI'
  refine lv_aload_n hx hb dL_law_184 rfl (lv_at hl 1 rfl) ?_
  refine law_arg hx hb hX hbl hbA hS hN hl rfl rfl (k := 1) (by decide) (by omega) dL_law_185 dL_law_186 dL_law_187 dL_law_188 dL_law_189 ?_
  refine law_arg hx hb hX hbl hbA hS hN hl rfl rfl (k := 2) (by decide) (by omega) dL_law_190 dL_law_191 dL_law_192 dL_law_193 dL_law_194 ?_
  refine mr_callV (As := [.int (xs (i + 1)), .int (xs (i + 2))]) (rest := []) (st1 := [.int iv]) C0 hcX (cwV 2 C0.1.2.2.2.2 gL_law_X3_setWeight rfl x1 x2 (by decide +kernel) ⟨by show _ ≤ 10; omega, by show _ ≤ 366; omega⟩) hM bx sx rfl rfl hM hS rfl rfl rfl hl.1 (Nat.le_of_ble_eq_true rfl) dL_law_195 ⟨Nat.le_of_ble_eq_true rfl, Nat.le_of_ble_eq_true rfl⟩ (fun H1 locs1 hM1 hS1 => ?_)
  refine lv_aload_n hx hb dL_law_198 rfl (lv_at hl 2 rfl) ?_
  refine law_arg hx hb hX hbl hbA hS1 hN hl rfl rfl (k := 1) (by decide) (by omega) dL_law_199 dL_law_200 dL_law_201 dL_law_202 dL_law_203 ?_
  refine law_arg hx hb hX hbl hbA hS1 hN hl rfl rfl (k := 2) (by decide) (by omega) dL_law_204 dL_law_205 dL_law_206 dL_law_207 dL_law_208 ?_
  refine mr_callV (As := [.int (xs (i + 1)), .int (xs (i + 2))]) (rest := [.int iv]) (st1 := [.int iv, .int iv]) C0 hcM (cwV 2 C0.1.2.2.2.2 gL_law_X4_setWeight rfl y1 y2 (by decide +kernel) ⟨by show _ ≤ 10; omega, by show _ ≤ 366; omega⟩) hM1 bm sm rfl rfl hM1 hS1 rfl rfl rfl hl.1 (Nat.le_of_ble_eq_true rfl) dL_law_209 ⟨Nat.le_of_ble_eq_true rfl, Nat.le_of_ble_eq_true rfl⟩ (fun H2 locs2 hM2 hS2 => ?_)
  refine lv_icmp_eq (tgt := 699) hx hb dL_law_212 (by decide) (fun _ => ?_) (fun h => absurd rfl h)
  exact kk H2 locs2 Sh1 I2 J2 hM2 hS2 hI'
set_option maxHeartbeats 4000000 in
set_option maxRecDepth 100000 in
theorem law_c3 {p : Program} {l : Launch} {e : Env} {s : State} {m : MethodId} {below : List Frame} {meth : Method} {c : Code} {D : va_G} {T : Nat → ClassId} {L : List Nat} {A : Nat → Prop} {sb x b N i t : Nat} {xs : Nat → Int32} {Sh : hm_S} {I : hm_I} {J : hm_J} {H : Heap} {locs : List Loc} {ls : Array Slot} {Qq : State → Prop} (C0 : Cx p s m #[Value.ref sb] c code 4 wsL_law RL D T) (hX : va_X sb N xs s s.heap) (hbl : sb < s.heap.size) (hbA : ¬ A sb) (hN : N ≤ 2048) (hM : hm D T L A Sh I J H) (hS : va_S A s.heap H locs) (hI : Inv L x b t Sh I) (ht : t < 1000) (hi : i + 3 < N) (hl : lv_has ls 4 [(0, .ref sb), (1, .ref x), (2, .ref b), (3, .int (nI i))])
    (kk : ∀ (H1 : Heap) (locs1 : List Loc) (Sh1 : hm_S) (I1 : hm_I) (J1 : hm_J), hm D T L A Sh1 I1 J1 H1 → va_S A s.heap H1 locs1 → Inv L x b (t + 1) Sh1 I1 → W p l e room_1 s m #[Value.ref sb] below meth c H1 locs1 600000 7302250 Qq (F0 m 699 ls [])) : W p l e room_1 s m #[Value.ref sb] below meth c H locs 600000 7302250 Qq (F0 m 217 ls []) := by
  have hx := C0.1.1
  have hb := C0.1.2.1
  obtain ⟨v, Sh1, I1, J1, I2, J2, ⟨iv, rfl⟩, ⟨rX, x1, x2, x3, x4, hcX⟩, ⟨rM, y1, y2, y3, y4, hcM⟩, hI'⟩ := op_push (xs (i + 1)) (xs (i + 2)) l D T L A x b t Sh I J ht hI
  obtain ⟨fx, bx, sx⟩ := inv_x hI
  obtain ⟨fm, bm, sm⟩ := inv_m hI'
  refine lv_aload_n hx hb dL_law_217 rfl (lv_at hl 1 rfl) ?_
  refine law_arg hx hb hX hbl hbA hS hN hl rfl rfl (k := 1) (by decide) (by omega) dL_law_218 dL_law_219 dL_law_220 dL_law_221 dL_law_222 ?_
  refine law_arg hx hb hX hbl hbA hS hN hl rfl rfl (k := 2) (by decide) (by omega) dL_law_223 dL_law_224 dL_law_225 dL_law_226 dL_law_227 ?_
  refine mr_callV (As := [.int (xs (i + 1)), .int (xs (i + 2))]) (rest := []) (st1 := [.int iv]) C0 hcX (cwV 2 C0.1.2.2.2.2 gL_law_X3_push rfl x1 x2 (by decide +kernel) ⟨by show _ ≤ 10; omega, by show _ ≤ 366; omega⟩) hM bx sx rfl rfl hM hS rfl rfl rfl hl.1 (Nat.le_of_ble_eq_true rfl) dL_law_228 ⟨Nat.le_of_ble_eq_true rfl, Nat.le_of_ble_eq_true rfl⟩ (fun H1 locs1 hM1 hS1 => ?_)
  refine lv_aload_n hx hb dL_law_231 rfl (lv_at hl 2 rfl) ?_
  refine law_arg hx hb hX hbl hbA hS1 hN hl rfl rfl (k := 1) (by decide) (by omega) dL_law_232 dL_law_233 dL_law_234 dL_law_235 dL_law_236 ?_
  refine law_arg hx hb hX hbl hbA hS1 hN hl rfl rfl (k := 2) (by decide) (by omega) dL_law_237 dL_law_238 dL_law_239 dL_law_240 dL_law_241 ?_
  refine mr_callV (As := [.int (xs (i + 1)), .int (xs (i + 2))]) (rest := [.int iv]) (st1 := [.int iv, .int iv]) C0 hcM (cwV 2 C0.1.2.2.2.2 gL_law_X4_push rfl y1 y2 (by decide +kernel) ⟨by show _ ≤ 10; omega, by show _ ≤ 366; omega⟩) hM1 bm sm rfl rfl hM1 hS1 rfl rfl rfl hl.1 (Nat.le_of_ble_eq_true rfl) dL_law_242 ⟨Nat.le_of_ble_eq_true rfl, Nat.le_of_ble_eq_true rfl⟩ (fun H2 locs2 hM2 hS2 => ?_)
  refine lv_icmp_eq (tgt := 699) hx hb dL_law_245 (by decide) (fun _ => ?_) (fun h => absurd rfl h)
  exact kk H2 locs2 Sh1 I2 J2 hM2 hS2 hI'
set_option maxHeartbeats 4000000 in
set_option maxRecDepth 100000 in
theorem law_c4 {p : Program} {l : Launch} {e : Env} {s : State} {m : MethodId} {below : List Frame} {meth : Method} {c : Code} {D : va_G} {T : Nat → ClassId} {L : List Nat} {A : Nat → Prop} {sb x b N i t : Nat} {xs : Nat → Int32} {Sh : hm_S} {I : hm_I} {J : hm_J} {H : Heap} {locs : List Loc} {ls : Array Slot} {Qq : State → Prop} (C0 : Cx p s m #[Value.ref sb] c code 4 wsL_law RL D T) (hX : va_X sb N xs s s.heap) (hbl : sb < s.heap.size) (hbA : ¬ A sb) (hN : N ≤ 2048) (hM : hm D T L A Sh I J H) (hS : va_S A s.heap H locs) (hI : Inv L x b t Sh I) (ht : t < 1000) (hi : i + 3 < N) (hl : lv_has ls 4 [(0, .ref sb), (1, .ref x), (2, .ref b), (3, .int (nI i))])
    (kk : ∀ (H1 : Heap) (locs1 : List Loc) (Sh1 : hm_S) (I1 : hm_I) (J1 : hm_J), hm D T L A Sh1 I1 J1 H1 → va_S A s.heap H1 locs1 → Inv L x b (t + 1) Sh1 I1 → W p l e room_1 s m #[Value.ref sb] below meth c H1 locs1 600000 7302250 Qq (F0 m 699 ls [])) : W p l e room_1 s m #[Value.ref sb] below meth c H locs 600000 7302250 Qq (F0 m 250 ls []) := by
  have hx := C0.1.1
  have hb := C0.1.2.1
  obtain ⟨v, Sh1, I1, J1, I2, J2, ⟨iv, rfl⟩, ⟨rX, x1, x2, x3, x4, hcX⟩, ⟨rM, y1, y2, y3, y4, hcM⟩, hI'⟩ := op_edge (xs (i + 1)) (xs (i + 2)) (xs (i + 3)) l D T L A x b t Sh I J ht hI
  obtain ⟨fx, bx, sx⟩ := inv_x hI
  obtain ⟨fm, bm, sm⟩ := inv_m hI'
  refine lv_aload_n hx hb dL_law_250 rfl (lv_at hl 1 rfl) ?_
  refine law_arg hx hb hX hbl hbA hS hN hl rfl rfl (k := 1) (by decide) (by omega) dL_law_251 dL_law_252 dL_law_253 dL_law_254 dL_law_255 ?_
  refine law_arg hx hb hX hbl hbA hS hN hl rfl rfl (k := 2) (by decide) (by omega) dL_law_256 dL_law_257 dL_law_258 dL_law_259 dL_law_260 ?_
  refine law_arg hx hb hX hbl hbA hS hN hl rfl rfl (k := 3) (by decide) (by omega) dL_law_261 dL_law_262 dL_law_263 dL_law_264 dL_law_265 ?_
  refine mr_callV (As := [.int (xs (i + 1)), .int (xs (i + 2)), .int (xs (i + 3))]) (rest := []) (st1 := [.int iv]) C0 hcX (cwV 3 C0.1.2.2.2.2 gL_law_X3_edge rfl x1 x2 (by decide +kernel) ⟨by show _ ≤ 10; omega, by show _ ≤ 366; omega⟩) hM bx sx rfl rfl hM hS rfl rfl rfl hl.1 (Nat.le_of_ble_eq_true rfl) dL_law_266 ⟨Nat.le_of_ble_eq_true rfl, Nat.le_of_ble_eq_true rfl⟩ (fun H1 locs1 hM1 hS1 => ?_)
  refine lv_aload_n hx hb dL_law_269 rfl (lv_at hl 2 rfl) ?_
  refine law_arg hx hb hX hbl hbA hS1 hN hl rfl rfl (k := 1) (by decide) (by omega) dL_law_270 dL_law_271 dL_law_272 dL_law_273 dL_law_274 ?_
  refine law_arg hx hb hX hbl hbA hS1 hN hl rfl rfl (k := 2) (by decide) (by omega) dL_law_275 dL_law_276 dL_law_277 dL_law_278 dL_law_279 ?_
  refine law_arg hx hb hX hbl hbA hS1 hN hl rfl rfl (k := 3) (by decide) (by omega) dL_law_280 dL_law_281 dL_law_282 dL_law_283 dL_law_284 ?_
  refine mr_callV (As := [.int (xs (i + 1)), .int (xs (i + 2)), .int (xs (i + 3))]) (rest := [.int iv]) (st1 := [.int iv, .int iv]) C0 hcM (cwV 3 C0.1.2.2.2.2 gL_law_X4_edge rfl y1 y2 (by decide +kernel) ⟨by show _ ≤ 10; omega, by show _ ≤ 366; omega⟩) hM1 bm sm rfl rfl hM1 hS1 rfl rfl rfl hl.1 (Nat.le_of_ble_eq_true rfl) dL_law_285 ⟨Nat.le_of_ble_eq_true rfl, Nat.le_of_ble_eq_true rfl⟩ (fun H2 locs2 hM2 hS2 => ?_)
  refine lv_icmp_eq (tgt := 699) hx hb dL_law_288 (by decide) (fun _ => ?_) (fun h => absurd rfl h)
  exact kk H2 locs2 Sh1 I2 J2 hM2 hS2 hI'
set_option maxHeartbeats 4000000 in
set_option maxRecDepth 100000 in
theorem law_c5 {p : Program} {l : Launch} {e : Env} {s : State} {m : MethodId} {below : List Frame} {meth : Method} {c : Code} {D : va_G} {T : Nat → ClassId} {L : List Nat} {A : Nat → Prop} {sb x b N i t : Nat} {xs : Nat → Int32} {Sh : hm_S} {I : hm_I} {J : hm_J} {H : Heap} {locs : List Loc} {ls : Array Slot} {Qq : State → Prop} (C0 : Cx p s m #[Value.ref sb] c code 4 wsL_law RL D T) (hX : va_X sb N xs s s.heap) (hbl : sb < s.heap.size) (hbA : ¬ A sb) (hN : N ≤ 2048) (hM : hm D T L A Sh I J H) (hS : va_S A s.heap H locs) (hI : Inv L x b t Sh I) (ht : t < 1000) (hi : i + 3 < N) (hl : lv_has ls 4 [(0, .ref sb), (1, .ref x), (2, .ref b), (3, .int (nI i))])
    (kk : ∀ (H1 : Heap) (locs1 : List Loc) (Sh1 : hm_S) (I1 : hm_I) (J1 : hm_J), hm D T L A Sh1 I1 J1 H1 → va_S A s.heap H1 locs1 → Inv L x b (t + 1) Sh1 I1 → W p l e room_1 s m #[Value.ref sb] below meth c H1 locs1 600000 7302250 Qq (F0 m 699 ls [])) : W p l e room_1 s m #[Value.ref sb] below meth c H locs 600000 7302250 Qq (F0 m 293 ls []) := by
  have hx := C0.1.1
  have hb := C0.1.2.1
  obtain ⟨v, Sh1, I1, J1, I2, J2, ⟨iv, rfl⟩, ⟨rX, x1, x2, x3, x4, hcX⟩, ⟨rM, y1, y2, y3, y4, hcM⟩, hI'⟩ := op_commit  l D T L A x b t Sh I J ht hI
  obtain ⟨fx, bx, sx⟩ := inv_x hI
  obtain ⟨fm, bm, sm⟩ := inv_m hI'
  refine lv_aload_n hx hb dL_law_293 rfl (lv_at hl 1 rfl) ?_
  refine mr_callV (As := []) (rest := []) (st1 := [.int iv]) C0 hcX (cwV 0 C0.1.2.2.2.2 gL_law_X3_commit rfl x1 x2 (by decide +kernel) ⟨by show _ ≤ 10; omega, by show _ ≤ 366; omega⟩) hM bx sx rfl rfl hM hS rfl rfl rfl hl.1 (Nat.le_of_ble_eq_true rfl) dL_law_294 ⟨Nat.le_of_ble_eq_true rfl, Nat.le_of_ble_eq_true rfl⟩ (fun H1 locs1 hM1 hS1 => ?_)
  refine lv_aload_n hx hb dL_law_297 rfl (lv_at hl 2 rfl) ?_
  refine mr_callV (As := []) (rest := [.int iv]) (st1 := [.int iv, .int iv]) C0 hcM (cwV 0 C0.1.2.2.2.2 gL_law_X4_commit rfl y1 y2 (by decide +kernel) ⟨by show _ ≤ 10; omega, by show _ ≤ 366; omega⟩) hM1 bm sm rfl rfl hM1 hS1 rfl rfl rfl hl.1 (Nat.le_of_ble_eq_true rfl) dL_law_298 ⟨Nat.le_of_ble_eq_true rfl, Nat.le_of_ble_eq_true rfl⟩ (fun H2 locs2 hM2 hS2 => ?_)
  refine lv_icmp_eq (tgt := 699) hx hb dL_law_301 (by decide) (fun _ => ?_) (fun h => absurd rfl h)
  exact kk H2 locs2 Sh1 I2 J2 hM2 hS2 hI'
set_option maxHeartbeats 4000000 in
set_option maxRecDepth 100000 in
theorem law_c6 {p : Program} {l : Launch} {e : Env} {s : State} {m : MethodId} {below : List Frame} {meth : Method} {c : Code} {D : va_G} {T : Nat → ClassId} {L : List Nat} {A : Nat → Prop} {sb x b N i t : Nat} {xs : Nat → Int32} {Sh : hm_S} {I : hm_I} {J : hm_J} {H : Heap} {locs : List Loc} {ls : Array Slot} {Qq : State → Prop} (C0 : Cx p s m #[Value.ref sb] c code 4 wsL_law RL D T) (hX : va_X sb N xs s s.heap) (hbl : sb < s.heap.size) (hbA : ¬ A sb) (hN : N ≤ 2048) (hM : hm D T L A Sh I J H) (hS : va_S A s.heap H locs) (hI : Inv L x b t Sh I) (ht : t < 1000) (hi : i + 3 < N) (hl : lv_has ls 4 [(0, .ref sb), (1, .ref x), (2, .ref b), (3, .int (nI i))])
    (kk : ∀ (H1 : Heap) (locs1 : List Loc) (Sh1 : hm_S) (I1 : hm_I) (J1 : hm_J), hm D T L A Sh1 I1 J1 H1 → va_S A s.heap H1 locs1 → Inv L x b (t + 1) Sh1 I1 → W p l e room_1 s m #[Value.ref sb] below meth c H1 locs1 600000 7302250 Qq (F0 m 699 ls [])) : W p l e room_1 s m #[Value.ref sb] below meth c H locs 600000 7302250 Qq (F0 m 306 ls []) := by
  have hx := C0.1.1
  have hb := C0.1.2.1
  obtain ⟨v, Sh1, I1, J1, I2, J2, ⟨iv, rfl⟩, ⟨rX, x1, x2, x3, x4, hcX⟩, ⟨rM, y1, y2, y3, y4, hcM⟩, hI'⟩ := op_revert (xs (i + 1)) l D T L A x b t Sh I J ht hI
  obtain ⟨fx, bx, sx⟩ := inv_x hI
  obtain ⟨fm, bm, sm⟩ := inv_m hI'
  refine lv_aload_n hx hb dL_law_306 rfl (lv_at hl 1 rfl) ?_
  refine law_arg hx hb hX hbl hbA hS hN hl rfl rfl (k := 1) (by decide) (by omega) dL_law_307 dL_law_308 dL_law_309 dL_law_310 dL_law_311 ?_
  refine mr_callV (As := [.int (xs (i + 1))]) (rest := []) (st1 := [.int iv]) C0 hcX (cwV 1 C0.1.2.2.2.2 gL_law_X3_revert rfl x1 x2 (by decide +kernel) ⟨by show _ ≤ 10; omega, by show _ ≤ 366; omega⟩) hM bx sx rfl rfl hM hS rfl rfl rfl hl.1 (Nat.le_of_ble_eq_true rfl) dL_law_312 ⟨Nat.le_of_ble_eq_true rfl, Nat.le_of_ble_eq_true rfl⟩ (fun H1 locs1 hM1 hS1 => ?_)
  refine lv_aload_n hx hb dL_law_315 rfl (lv_at hl 2 rfl) ?_
  refine law_arg hx hb hX hbl hbA hS1 hN hl rfl rfl (k := 1) (by decide) (by omega) dL_law_316 dL_law_317 dL_law_318 dL_law_319 dL_law_320 ?_
  refine mr_callV (As := [.int (xs (i + 1))]) (rest := [.int iv]) (st1 := [.int iv, .int iv]) C0 hcM (cwV 1 C0.1.2.2.2.2 gL_law_X4_revert rfl y1 y2 (by decide +kernel) ⟨by show _ ≤ 10; omega, by show _ ≤ 366; omega⟩) hM1 bm sm rfl rfl hM1 hS1 rfl rfl rfl hl.1 (Nat.le_of_ble_eq_true rfl) dL_law_321 ⟨Nat.le_of_ble_eq_true rfl, Nat.le_of_ble_eq_true rfl⟩ (fun H2 locs2 hM2 hS2 => ?_)
  refine lv_icmp_eq (tgt := 699) hx hb dL_law_324 (by decide) (fun _ => ?_) (fun h => absurd rfl h)
  exact kk H2 locs2 Sh1 I2 J2 hM2 hS2 hI'
set_option maxHeartbeats 4000000 in
set_option maxRecDepth 100000 in
theorem law_c7 {p : Program} {l : Launch} {e : Env} {s : State} {m : MethodId} {below : List Frame} {meth : Method} {c : Code} {D : va_G} {T : Nat → ClassId} {L : List Nat} {A : Nat → Prop} {sb x b N i t : Nat} {xs : Nat → Int32} {Sh : hm_S} {I : hm_I} {J : hm_J} {H : Heap} {locs : List Loc} {ls : Array Slot} {Qq : State → Prop} (C0 : Cx p s m #[Value.ref sb] c code 4 wsL_law RL D T) (hX : va_X sb N xs s s.heap) (hbl : sb < s.heap.size) (hbA : ¬ A sb) (hN : N ≤ 2048) (hM : hm D T L A Sh I J H) (hS : va_S A s.heap H locs) (hI : Inv L x b t Sh I) (ht : t < 1000) (hi : i + 3 < N) (hl : lv_has ls 4 [(0, .ref sb), (1, .ref x), (2, .ref b), (3, .int (nI i))])
    (kk : ∀ (H1 : Heap) (locs1 : List Loc) (Sh1 : hm_S) (I1 : hm_I) (J1 : hm_J), hm D T L A Sh1 I1 J1 H1 → va_S A s.heap H1 locs1 → Inv L x b (t + 1) Sh1 I1 → W p l e room_1 s m #[Value.ref sb] below meth c H1 locs1 600000 7302250 Qq (F0 m 699 ls [])) : W p l e room_1 s m #[Value.ref sb] below meth c H locs 600000 7302250 Qq (F0 m 329 ls []) := by
  have hx := C0.1.1
  have hb := C0.1.2.1
  obtain ⟨v, Sh1, I1, J1, I2, J2, ⟨iv, rfl⟩, ⟨rX, x1, x2, x3, x4, hcX⟩, ⟨rM, y1, y2, y3, y4, hcM⟩, hI'⟩ := op_witness (xs (i + 1)) (xs (i + 2)) (xs (i + 3)) l D T L A x b t Sh I J ht hI
  obtain ⟨fx, bx, sx⟩ := inv_x hI
  obtain ⟨fm, bm, sm⟩ := inv_m hI'
  refine lv_aload_n hx hb dL_law_329 rfl (lv_at hl 1 rfl) ?_
  refine law_arg hx hb hX hbl hbA hS hN hl rfl rfl (k := 1) (by decide) (by omega) dL_law_330 dL_law_331 dL_law_332 dL_law_333 dL_law_334 ?_
  refine law_arg hx hb hX hbl hbA hS hN hl rfl rfl (k := 2) (by decide) (by omega) dL_law_335 dL_law_336 dL_law_337 dL_law_338 dL_law_339 ?_
  refine law_arg hx hb hX hbl hbA hS hN hl rfl rfl (k := 3) (by decide) (by omega) dL_law_340 dL_law_341 dL_law_342 dL_law_343 dL_law_344 ?_
  refine mr_callV (As := [.int (xs (i + 1)), .int (xs (i + 2)), .int (xs (i + 3))]) (rest := []) (st1 := [.int iv]) C0 hcX (cwV 3 C0.1.2.2.2.2 gL_law_X3_witness rfl x1 x2 (by decide +kernel) ⟨by show _ ≤ 10; omega, by show _ ≤ 366; omega⟩) hM bx sx rfl rfl hM hS rfl rfl rfl hl.1 (Nat.le_of_ble_eq_true rfl) dL_law_345 ⟨Nat.le_of_ble_eq_true rfl, Nat.le_of_ble_eq_true rfl⟩ (fun H1 locs1 hM1 hS1 => ?_)
  refine lv_aload_n hx hb dL_law_348 rfl (lv_at hl 2 rfl) ?_
  refine law_arg hx hb hX hbl hbA hS1 hN hl rfl rfl (k := 1) (by decide) (by omega) dL_law_349 dL_law_350 dL_law_351 dL_law_352 dL_law_353 ?_
  refine law_arg hx hb hX hbl hbA hS1 hN hl rfl rfl (k := 2) (by decide) (by omega) dL_law_354 dL_law_355 dL_law_356 dL_law_357 dL_law_358 ?_
  refine law_arg hx hb hX hbl hbA hS1 hN hl rfl rfl (k := 3) (by decide) (by omega) dL_law_359 dL_law_360 dL_law_361 dL_law_362 dL_law_363 ?_
  refine mr_callV (As := [.int (xs (i + 1)), .int (xs (i + 2)), .int (xs (i + 3))]) (rest := [.int iv]) (st1 := [.int iv, .int iv]) C0 hcM (cwV 3 C0.1.2.2.2.2 gL_law_X4_witness rfl y1 y2 (by decide +kernel) ⟨by show _ ≤ 10; omega, by show _ ≤ 366; omega⟩) hM1 bm sm rfl rfl hM1 hS1 rfl rfl rfl hl.1 (Nat.le_of_ble_eq_true rfl) dL_law_364 ⟨Nat.le_of_ble_eq_true rfl, Nat.le_of_ble_eq_true rfl⟩ (fun H2 locs2 hM2 hS2 => ?_)
  refine lv_icmp_eq (tgt := 699) hx hb dL_law_367 (by decide) (fun _ => ?_) (fun h => absurd rfl h)
  exact kk H2 locs2 Sh1 I2 J2 hM2 hS2 hI'
set_option maxHeartbeats 4000000 in
set_option maxRecDepth 100000 in
theorem law_c8 {p : Program} {l : Launch} {e : Env} {s : State} {m : MethodId} {below : List Frame} {meth : Method} {c : Code} {D : va_G} {T : Nat → ClassId} {L : List Nat} {A : Nat → Prop} {sb x b N i t : Nat} {xs : Nat → Int32} {Sh : hm_S} {I : hm_I} {J : hm_J} {H : Heap} {locs : List Loc} {ls : Array Slot} {Qq : State → Prop} (C0 : Cx p s m #[Value.ref sb] c code 4 wsL_law RL D T) (hX : va_X sb N xs s s.heap) (hbl : sb < s.heap.size) (hbA : ¬ A sb) (hN : N ≤ 2048) (hM : hm D T L A Sh I J H) (hS : va_S A s.heap H locs) (hI : Inv L x b t Sh I) (ht : t < 1000) (hi : i + 3 < N) (hl : lv_has ls 4 [(0, .ref sb), (1, .ref x), (2, .ref b), (3, .int (nI i))])
    (kk : ∀ (H1 : Heap) (locs1 : List Loc) (Sh1 : hm_S) (I1 : hm_I) (J1 : hm_J), hm D T L A Sh1 I1 J1 H1 → va_S A s.heap H1 locs1 → Inv L x b (t + 1) Sh1 I1 → W p l e room_1 s m #[Value.ref sb] below meth c H1 locs1 600000 7302250 Qq (F0 m 699 ls [])) : W p l e room_1 s m #[Value.ref sb] below meth c H locs 600000 7302250 Qq (F0 m 372 ls []) := by
  have hx := C0.1.1
  have hb := C0.1.2.1
  obtain ⟨v, Sh1, I1, J1, I2, J2, ⟨iv, rfl⟩, ⟨rX, x1, x2, x3, x4, hcX⟩, ⟨rM, y1, y2, y3, y4, hcM⟩, hI'⟩ := op_send  l D T L A x b t Sh I J ht hI
  obtain ⟨fx, bx, sx⟩ := inv_x hI
  obtain ⟨fm, bm, sm⟩ := inv_m hI'
  refine lv_aload_n hx hb dL_law_372 rfl (lv_at hl 1 rfl) ?_
  refine mr_callV (As := []) (rest := []) (st1 := [.int iv]) C0 hcX (cwV 0 C0.1.2.2.2.2 gL_law_X3_send rfl x1 x2 (by decide +kernel) ⟨by show _ ≤ 10; omega, by show _ ≤ 366; omega⟩) hM bx sx rfl rfl hM hS rfl rfl rfl hl.1 (Nat.le_of_ble_eq_true rfl) dL_law_373 ⟨Nat.le_of_ble_eq_true rfl, Nat.le_of_ble_eq_true rfl⟩ (fun H1 locs1 hM1 hS1 => ?_)
  refine lv_aload_n hx hb dL_law_376 rfl (lv_at hl 2 rfl) ?_
  refine mr_callV (As := []) (rest := [.int iv]) (st1 := [.int iv, .int iv]) C0 hcM (cwV 0 C0.1.2.2.2.2 gL_law_X4_send rfl y1 y2 (by decide +kernel) ⟨by show _ ≤ 10; omega, by show _ ≤ 366; omega⟩) hM1 bm sm rfl rfl hM1 hS1 rfl rfl rfl hl.1 (Nat.le_of_ble_eq_true rfl) dL_law_377 ⟨Nat.le_of_ble_eq_true rfl, Nat.le_of_ble_eq_true rfl⟩ (fun H2 locs2 hM2 hS2 => ?_)
  refine lv_icmp_eq (tgt := 699) hx hb dL_law_380 (by decide) (fun _ => ?_) (fun h => absurd rfl h)
  exact kk H2 locs2 Sh1 I2 J2 hM2 hS2 hI'
set_option maxHeartbeats 4000000 in
set_option maxRecDepth 100000 in
theorem law_c9 {p : Program} {l : Launch} {e : Env} {s : State} {m : MethodId} {below : List Frame} {meth : Method} {c : Code} {D : va_G} {T : Nat → ClassId} {L : List Nat} {A : Nat → Prop} {sb x b N i t : Nat} {xs : Nat → Int32} {Sh : hm_S} {I : hm_I} {J : hm_J} {H : Heap} {locs : List Loc} {ls : Array Slot} {Qq : State → Prop} (C0 : Cx p s m #[Value.ref sb] c code 4 wsL_law RL D T) (hX : va_X sb N xs s s.heap) (hbl : sb < s.heap.size) (hbA : ¬ A sb) (hN : N ≤ 2048) (hM : hm D T L A Sh I J H) (hS : va_S A s.heap H locs) (hI : Inv L x b t Sh I) (ht : t < 1000) (hi : i + 3 < N) (hl : lv_has ls 4 [(0, .ref sb), (1, .ref x), (2, .ref b), (3, .int (nI i))])
    (kk : ∀ (H1 : Heap) (locs1 : List Loc) (Sh1 : hm_S) (I1 : hm_I) (J1 : hm_J), hm D T L A Sh1 I1 J1 H1 → va_S A s.heap H1 locs1 → Inv L x b (t + 1) Sh1 I1 → W p l e room_1 s m #[Value.ref sb] below meth c H1 locs1 600000 7302250 Qq (F0 m 699 ls [])) : W p l e room_1 s m #[Value.ref sb] below meth c H locs 600000 7302250 Qq (F0 m 385 ls []) := by
  have hx := C0.1.1
  have hb := C0.1.2.1
  obtain ⟨v, Sh1, I1, J1, I2, J2, ⟨iv, rfl⟩, ⟨rX, x1, x2, x3, x4, hcX⟩, ⟨rM, y1, y2, y3, y4, hcM⟩, hI'⟩ := op_sendSome (xs (i + 1)) l D T L A x b t Sh I J ht hI
  obtain ⟨fx, bx, sx⟩ := inv_x hI
  obtain ⟨fm, bm, sm⟩ := inv_m hI'
  refine lv_aload_n hx hb dL_law_385 rfl (lv_at hl 1 rfl) ?_
  refine law_arg hx hb hX hbl hbA hS hN hl rfl rfl (k := 1) (by decide) (by omega) dL_law_386 dL_law_387 dL_law_388 dL_law_389 dL_law_390 ?_
  refine mr_callV (As := [.int (xs (i + 1))]) (rest := []) (st1 := [.int iv]) C0 hcX (cwV 1 C0.1.2.2.2.2 gL_law_X3_sendSome rfl x1 x2 (by decide +kernel) ⟨by show _ ≤ 10; omega, by show _ ≤ 366; omega⟩) hM bx sx rfl rfl hM hS rfl rfl rfl hl.1 (Nat.le_of_ble_eq_true rfl) dL_law_391 ⟨Nat.le_of_ble_eq_true rfl, Nat.le_of_ble_eq_true rfl⟩ (fun H1 locs1 hM1 hS1 => ?_)
  refine lv_aload_n hx hb dL_law_394 rfl (lv_at hl 2 rfl) ?_
  refine law_arg hx hb hX hbl hbA hS1 hN hl rfl rfl (k := 1) (by decide) (by omega) dL_law_395 dL_law_396 dL_law_397 dL_law_398 dL_law_399 ?_
  refine mr_callV (As := [.int (xs (i + 1))]) (rest := [.int iv]) (st1 := [.int iv, .int iv]) C0 hcM (cwV 1 C0.1.2.2.2.2 gL_law_X4_sendSome rfl y1 y2 (by decide +kernel) ⟨by show _ ≤ 10; omega, by show _ ≤ 366; omega⟩) hM1 bm sm rfl rfl hM1 hS1 rfl rfl rfl hl.1 (Nat.le_of_ble_eq_true rfl) dL_law_400 ⟨Nat.le_of_ble_eq_true rfl, Nat.le_of_ble_eq_true rfl⟩ (fun H2 locs2 hM2 hS2 => ?_)
  refine lv_icmp_eq (tgt := 699) hx hb dL_law_403 (by decide) (fun _ => ?_) (fun h => absurd rfl h)
  exact kk H2 locs2 Sh1 I2 J2 hM2 hS2 hI'
set_option maxHeartbeats 4000000 in
set_option maxRecDepth 100000 in
theorem law_c10 {p : Program} {l : Launch} {e : Env} {s : State} {m : MethodId} {below : List Frame} {meth : Method} {c : Code} {D : va_G} {T : Nat → ClassId} {L : List Nat} {A : Nat → Prop} {sb x b N i t : Nat} {xs : Nat → Int32} {Sh : hm_S} {I : hm_I} {J : hm_J} {H : Heap} {locs : List Loc} {ls : Array Slot} {Qq : State → Prop} (C0 : Cx p s m #[Value.ref sb] c code 4 wsL_law RL D T) (hX : va_X sb N xs s s.heap) (hbl : sb < s.heap.size) (hbA : ¬ A sb) (hN : N ≤ 2048) (hM : hm D T L A Sh I J H) (hS : va_S A s.heap H locs) (hI : Inv L x b t Sh I) (ht : t < 1000) (hi : i + 3 < N) (hl : lv_has ls 4 [(0, .ref sb), (1, .ref x), (2, .ref b), (3, .int (nI i))])
    (kk : ∀ (H1 : Heap) (locs1 : List Loc) (Sh1 : hm_S) (I1 : hm_I) (J1 : hm_J), hm D T L A Sh1 I1 J1 H1 → va_S A s.heap H1 locs1 → Inv L x b (t + 1) Sh1 I1 → W p l e room_1 s m #[Value.ref sb] below meth c H1 locs1 600000 7302250 Qq (F0 m 699 ls [])) : W p l e room_1 s m #[Value.ref sb] below meth c H locs 600000 7302250 Qq (F0 m 408 ls []) := by
  have hx := C0.1.1
  have hb := C0.1.2.1
  obtain ⟨v, Sh1, I1, J1, I2, J2, ⟨iv, rfl⟩, ⟨rX, x1, x2, x3, x4, hcX⟩, ⟨rM, y1, y2, y3, y4, hcM⟩, hI'⟩ := op_undo  l D T L A x b t Sh I J ht hI
  obtain ⟨fx, bx, sx⟩ := inv_x hI
  obtain ⟨fm, bm, sm⟩ := inv_m hI'
  refine lv_aload_n hx hb dL_law_408 rfl (lv_at hl 1 rfl) ?_
  refine mr_callV (As := []) (rest := []) (st1 := [.int iv]) C0 hcX (cwV 0 C0.1.2.2.2.2 gL_law_X3_undo rfl x1 x2 (by decide +kernel) ⟨by show _ ≤ 10; omega, by show _ ≤ 366; omega⟩) hM bx sx rfl rfl hM hS rfl rfl rfl hl.1 (Nat.le_of_ble_eq_true rfl) dL_law_409 ⟨Nat.le_of_ble_eq_true rfl, Nat.le_of_ble_eq_true rfl⟩ (fun H1 locs1 hM1 hS1 => ?_)
  refine lv_aload_n hx hb dL_law_412 rfl (lv_at hl 2 rfl) ?_
  refine mr_callV (As := []) (rest := [.int iv]) (st1 := [.int iv, .int iv]) C0 hcM (cwV 0 C0.1.2.2.2.2 gL_law_X4_undo rfl y1 y2 (by decide +kernel) ⟨by show _ ≤ 10; omega, by show _ ≤ 366; omega⟩) hM1 bm sm rfl rfl hM1 hS1 rfl rfl rfl hl.1 (Nat.le_of_ble_eq_true rfl) dL_law_413 ⟨Nat.le_of_ble_eq_true rfl, Nat.le_of_ble_eq_true rfl⟩ (fun H2 locs2 hM2 hS2 => ?_)
  refine lv_icmp_eq (tgt := 699) hx hb dL_law_416 (by decide) (fun _ => ?_) (fun h => absurd rfl h)
  exact kk H2 locs2 Sh1 I2 J2 hM2 hS2 hI'
set_option maxHeartbeats 4000000 in
set_option maxRecDepth 100000 in
theorem law_c11 {p : Program} {l : Launch} {e : Env} {s : State} {m : MethodId} {below : List Frame} {meth : Method} {c : Code} {D : va_G} {T : Nat → ClassId} {L : List Nat} {A : Nat → Prop} {sb x b N i t : Nat} {xs : Nat → Int32} {Sh : hm_S} {I : hm_I} {J : hm_J} {H : Heap} {locs : List Loc} {ls : Array Slot} {Qq : State → Prop} (C0 : Cx p s m #[Value.ref sb] c code 4 wsL_law RL D T) (hX : va_X sb N xs s s.heap) (hbl : sb < s.heap.size) (hbA : ¬ A sb) (hN : N ≤ 2048) (hM : hm D T L A Sh I J H) (hS : va_S A s.heap H locs) (hI : Inv L x b t Sh I) (ht : t < 1000) (hi : i + 3 < N) (hl : lv_has ls 4 [(0, .ref sb), (1, .ref x), (2, .ref b), (3, .int (nI i))])
    (kk : ∀ (H1 : Heap) (locs1 : List Loc) (Sh1 : hm_S) (I1 : hm_I) (J1 : hm_J), hm D T L A Sh1 I1 J1 H1 → va_S A s.heap H1 locs1 → Inv L x b (t + 1) Sh1 I1 → W p l e room_1 s m #[Value.ref sb] below meth c H1 locs1 600000 7302250 Qq (F0 m 699 ls [])) : W p l e room_1 s m #[Value.ref sb] below meth c H locs 600000 7302250 Qq (F0 m 421 ls []) := by
  have hx := C0.1.1
  have hb := C0.1.2.1
  obtain ⟨v, Sh1, I1, J1, I2, J2, ⟨iv, rfl⟩, ⟨rX, x1, x2, x3, x4, hcX⟩, ⟨rM, y1, y2, y3, y4, hcM⟩, hI'⟩ := op_told (xs (i + 1)) l D T L A x b t Sh I J ht hI
  obtain ⟨fx, bx, sx⟩ := inv_x hI
  obtain ⟨fm, bm, sm⟩ := inv_m hI'
  refine lv_aload_n hx hb dL_law_421 rfl (lv_at hl 1 rfl) ?_
  refine law_arg hx hb hX hbl hbA hS hN hl rfl rfl (k := 1) (by decide) (by omega) dL_law_422 dL_law_423 dL_law_424 dL_law_425 dL_law_426 ?_
  refine mr_callV (As := [.int (xs (i + 1))]) (rest := []) (st1 := [.int iv]) C0 hcX (cwV 1 C0.1.2.2.2.2 gL_law_X3_told rfl x1 x2 (by decide +kernel) ⟨by show _ ≤ 10; omega, by show _ ≤ 366; omega⟩) hM bx sx rfl rfl hM hS rfl rfl rfl hl.1 (Nat.le_of_ble_eq_true rfl) dL_law_427 ⟨Nat.le_of_ble_eq_true rfl, Nat.le_of_ble_eq_true rfl⟩ (fun H1 locs1 hM1 hS1 => ?_)
  refine lv_aload_n hx hb dL_law_430 rfl (lv_at hl 2 rfl) ?_
  refine law_arg hx hb hX hbl hbA hS1 hN hl rfl rfl (k := 1) (by decide) (by omega) dL_law_431 dL_law_432 dL_law_433 dL_law_434 dL_law_435 ?_
  refine mr_callV (As := [.int (xs (i + 1))]) (rest := [.int iv]) (st1 := [.int iv, .int iv]) C0 hcM (cwV 1 C0.1.2.2.2.2 gL_law_X4_told rfl y1 y2 (by decide +kernel) ⟨by show _ ≤ 10; omega, by show _ ≤ 366; omega⟩) hM1 bm sm rfl rfl hM1 hS1 rfl rfl rfl hl.1 (Nat.le_of_ble_eq_true rfl) dL_law_436 ⟨Nat.le_of_ble_eq_true rfl, Nat.le_of_ble_eq_true rfl⟩ (fun H2 locs2 hM2 hS2 => ?_)
  refine lv_icmp_eq (tgt := 699) hx hb dL_law_439 (by decide) (fun _ => ?_) (fun h => absurd rfl h)
  exact kk H2 locs2 Sh1 I2 J2 hM2 hS2 hI'
set_option maxHeartbeats 4000000 in
set_option maxRecDepth 100000 in
theorem law_c12 {p : Program} {l : Launch} {e : Env} {s : State} {m : MethodId} {below : List Frame} {meth : Method} {c : Code} {D : va_G} {T : Nat → ClassId} {L : List Nat} {A : Nat → Prop} {sb x b N i t : Nat} {xs : Nat → Int32} {Sh : hm_S} {I : hm_I} {J : hm_J} {H : Heap} {locs : List Loc} {ls : Array Slot} {Qq : State → Prop} (C0 : Cx p s m #[Value.ref sb] c code 4 wsL_law RL D T) (hX : va_X sb N xs s s.heap) (hbl : sb < s.heap.size) (hbA : ¬ A sb) (hN : N ≤ 2048) (hM : hm D T L A Sh I J H) (hS : va_S A s.heap H locs) (hI : Inv L x b t Sh I) (ht : t < 1000) (hi : i + 3 < N) (hl : lv_has ls 4 [(0, .ref sb), (1, .ref x), (2, .ref b), (3, .int (nI i))])
    (kk : ∀ (H1 : Heap) (locs1 : List Loc) (Sh1 : hm_S) (I1 : hm_I) (J1 : hm_J), hm D T L A Sh1 I1 J1 H1 → va_S A s.heap H1 locs1 → Inv L x b (t + 1) Sh1 I1 → W p l e room_1 s m #[Value.ref sb] below meth c H1 locs1 600000 7302250 Qq (F0 m 699 ls [])) : W p l e room_1 s m #[Value.ref sb] below meth c H locs 600000 7302250 Qq (F0 m 444 ls []) := by
  have hx := C0.1.1
  have hb := C0.1.2.1
  obtain ⟨v, Sh1, I1, J1, I2, J2, ⟨iv, rfl⟩, ⟨rX, x1, x2, x3, x4, hcX⟩, ⟨rM, y1, y2, y3, y4, hcM⟩, hI'⟩ := op_stream (xs (i + 1)) (xs (i + 2)) l D T L A x b t Sh I J ht hI
  obtain ⟨fx, bx, sx⟩ := inv_x hI
  obtain ⟨fm, bm, sm⟩ := inv_m hI'
  refine lv_aload_n hx hb dL_law_444 rfl (lv_at hl 1 rfl) ?_
  refine law_arg hx hb hX hbl hbA hS hN hl rfl rfl (k := 1) (by decide) (by omega) dL_law_445 dL_law_446 dL_law_447 dL_law_448 dL_law_449 ?_
  refine law_arg hx hb hX hbl hbA hS hN hl rfl rfl (k := 2) (by decide) (by omega) dL_law_450 dL_law_451 dL_law_452 dL_law_453 dL_law_454 ?_
  refine mr_callV (As := [.int (xs (i + 1)), .int (xs (i + 2))]) (rest := []) (st1 := [.int iv]) C0 hcX (cwV 2 C0.1.2.2.2.2 gL_law_X3_stream rfl x1 x2 (by decide +kernel) ⟨by show _ ≤ 10; omega, by show _ ≤ 366; omega⟩) hM bx sx rfl rfl hM hS rfl rfl rfl hl.1 (Nat.le_of_ble_eq_true rfl) dL_law_455 ⟨Nat.le_of_ble_eq_true rfl, Nat.le_of_ble_eq_true rfl⟩ (fun H1 locs1 hM1 hS1 => ?_)
  refine lv_aload_n hx hb dL_law_458 rfl (lv_at hl 2 rfl) ?_
  refine law_arg hx hb hX hbl hbA hS1 hN hl rfl rfl (k := 1) (by decide) (by omega) dL_law_459 dL_law_460 dL_law_461 dL_law_462 dL_law_463 ?_
  refine law_arg hx hb hX hbl hbA hS1 hN hl rfl rfl (k := 2) (by decide) (by omega) dL_law_464 dL_law_465 dL_law_466 dL_law_467 dL_law_468 ?_
  refine mr_callV (As := [.int (xs (i + 1)), .int (xs (i + 2))]) (rest := [.int iv]) (st1 := [.int iv, .int iv]) C0 hcM (cwV 2 C0.1.2.2.2.2 gL_law_X4_stream rfl y1 y2 (by decide +kernel) ⟨by show _ ≤ 10; omega, by show _ ≤ 366; omega⟩) hM1 bm sm rfl rfl hM1 hS1 rfl rfl rfl hl.1 (Nat.le_of_ble_eq_true rfl) dL_law_469 ⟨Nat.le_of_ble_eq_true rfl, Nat.le_of_ble_eq_true rfl⟩ (fun H2 locs2 hM2 hS2 => ?_)
  refine lv_icmp_eq (tgt := 699) hx hb dL_law_472 (by decide) (fun _ => ?_) (fun h => absurd rfl h)
  exact kk H2 locs2 Sh1 I2 J2 hM2 hS2 hI'
set_option maxHeartbeats 4000000 in
set_option maxRecDepth 100000 in
theorem law_c13 {p : Program} {l : Launch} {e : Env} {s : State} {m : MethodId} {below : List Frame} {meth : Method} {c : Code} {D : va_G} {T : Nat → ClassId} {L : List Nat} {A : Nat → Prop} {sb x b N i t : Nat} {xs : Nat → Int32} {Sh : hm_S} {I : hm_I} {J : hm_J} {H : Heap} {locs : List Loc} {ls : Array Slot} {Qq : State → Prop} (C0 : Cx p s m #[Value.ref sb] c code 4 wsL_law RL D T) (hX : va_X sb N xs s s.heap) (hbl : sb < s.heap.size) (hbA : ¬ A sb) (hN : N ≤ 2048) (hM : hm D T L A Sh I J H) (hS : va_S A s.heap H locs) (hI : Inv L x b t Sh I) (ht : t < 1000) (hi : i + 3 < N) (hl : lv_has ls 4 [(0, .ref sb), (1, .ref x), (2, .ref b), (3, .int (nI i))])
    (kk : ∀ (H1 : Heap) (locs1 : List Loc) (Sh1 : hm_S) (I1 : hm_I) (J1 : hm_J), hm D T L A Sh1 I1 J1 H1 → va_S A s.heap H1 locs1 → Inv L x b (t + 1) Sh1 I1 → W p l e room_1 s m #[Value.ref sb] below meth c H1 locs1 600000 7302250 Qq (F0 m 699 ls [])) : W p l e room_1 s m #[Value.ref sb] below meth c H locs 600000 7302250 Qq (F0 m 477 ls []) := by
  have hx := C0.1.1
  have hb := C0.1.2.1
  obtain ⟨v, Sh1, I1, J1, I2, J2, ⟨iv, rfl⟩, ⟨rX, x1, x2, x3, x4, hcX⟩, ⟨rM, y1, y2, y3, y4, hcM⟩, hI'⟩ := op_frame (xs (i + 1)) (xs (i + 2)) (xs (i + 3)) l D T L A x b t Sh I J ht hI
  obtain ⟨fx, bx, sx⟩ := inv_x hI
  obtain ⟨fm, bm, sm⟩ := inv_m hI'
  refine lv_aload_n hx hb dL_law_477 rfl (lv_at hl 1 rfl) ?_
  refine law_arg hx hb hX hbl hbA hS hN hl rfl rfl (k := 1) (by decide) (by omega) dL_law_478 dL_law_479 dL_law_480 dL_law_481 dL_law_482 ?_
  refine law_arg hx hb hX hbl hbA hS hN hl rfl rfl (k := 2) (by decide) (by omega) dL_law_483 dL_law_484 dL_law_485 dL_law_486 dL_law_487 ?_
  refine law_arg hx hb hX hbl hbA hS hN hl rfl rfl (k := 3) (by decide) (by omega) dL_law_488 dL_law_489 dL_law_490 dL_law_491 dL_law_492 ?_
  refine mr_callV (As := [.int (xs (i + 1)), .int (xs (i + 2)), .int (xs (i + 3))]) (rest := []) (st1 := [.int iv]) C0 hcX (cwV 3 C0.1.2.2.2.2 gL_law_X3_frame rfl x1 x2 (by decide +kernel) ⟨by show _ ≤ 10; omega, by show _ ≤ 366; omega⟩) hM bx sx rfl rfl hM hS rfl rfl rfl hl.1 (Nat.le_of_ble_eq_true rfl) dL_law_493 ⟨Nat.le_of_ble_eq_true rfl, Nat.le_of_ble_eq_true rfl⟩ (fun H1 locs1 hM1 hS1 => ?_)
  refine lv_aload_n hx hb dL_law_496 rfl (lv_at hl 2 rfl) ?_
  refine law_arg hx hb hX hbl hbA hS1 hN hl rfl rfl (k := 1) (by decide) (by omega) dL_law_497 dL_law_498 dL_law_499 dL_law_500 dL_law_501 ?_
  refine law_arg hx hb hX hbl hbA hS1 hN hl rfl rfl (k := 2) (by decide) (by omega) dL_law_502 dL_law_503 dL_law_504 dL_law_505 dL_law_506 ?_
  refine law_arg hx hb hX hbl hbA hS1 hN hl rfl rfl (k := 3) (by decide) (by omega) dL_law_507 dL_law_508 dL_law_509 dL_law_510 dL_law_511 ?_
  refine mr_callV (As := [.int (xs (i + 1)), .int (xs (i + 2)), .int (xs (i + 3))]) (rest := [.int iv]) (st1 := [.int iv, .int iv]) C0 hcM (cwV 3 C0.1.2.2.2.2 gL_law_X4_frame rfl y1 y2 (by decide +kernel) ⟨by show _ ≤ 10; omega, by show _ ≤ 366; omega⟩) hM1 bm sm rfl rfl hM1 hS1 rfl rfl rfl hl.1 (Nat.le_of_ble_eq_true rfl) dL_law_512 ⟨Nat.le_of_ble_eq_true rfl, Nat.le_of_ble_eq_true rfl⟩ (fun H2 locs2 hM2 hS2 => ?_)
  refine lv_icmp_eq (tgt := 699) hx hb dL_law_515 (by decide) (fun _ => ?_) (fun h => absurd rfl h)
  exact kk H2 locs2 Sh1 I2 J2 hM2 hS2 hI'
set_option maxHeartbeats 4000000 in
set_option maxRecDepth 100000 in
theorem law_c14 {p : Program} {l : Launch} {e : Env} {s : State} {m : MethodId} {below : List Frame} {meth : Method} {c : Code} {D : va_G} {T : Nat → ClassId} {L : List Nat} {A : Nat → Prop} {sb x b N i t : Nat} {xs : Nat → Int32} {Sh : hm_S} {I : hm_I} {J : hm_J} {H : Heap} {locs : List Loc} {ls : Array Slot} {Qq : State → Prop} (C0 : Cx p s m #[Value.ref sb] c code 4 wsL_law RL D T) (hX : va_X sb N xs s s.heap) (hbl : sb < s.heap.size) (hbA : ¬ A sb) (hN : N ≤ 2048) (hM : hm D T L A Sh I J H) (hS : va_S A s.heap H locs) (hI : Inv L x b t Sh I) (ht : t < 1000) (hi : i + 3 < N) (hl : lv_has ls 4 [(0, .ref sb), (1, .ref x), (2, .ref b), (3, .int (nI i))])
    (kk : ∀ (H1 : Heap) (locs1 : List Loc) (Sh1 : hm_S) (I1 : hm_I) (J1 : hm_J), hm D T L A Sh1 I1 J1 H1 → va_S A s.heap H1 locs1 → Inv L x b (t + 1) Sh1 I1 → W p l e room_1 s m #[Value.ref sb] below meth c H1 locs1 600000 7302250 Qq (F0 m 699 ls [])) : W p l e room_1 s m #[Value.ref sb] below meth c H locs 600000 7302250 Qq (F0 m 520 ls []) := by
  have hx := C0.1.1
  have hb := C0.1.2.1
  obtain ⟨v, Sh1, I1, J1, I2, J2, ⟨iv, rfl⟩, ⟨rX, x1, x2, x3, x4, hcX⟩, ⟨rM, y1, y2, y3, y4, hcM⟩, hI'⟩ := op_log (xs (i + 1)) (xs (i + 2)) l D T L A x b t Sh I J ht hI
  obtain ⟨fx, bx, sx⟩ := inv_x hI
  obtain ⟨fm, bm, sm⟩ := inv_m hI'
  refine lv_aload_n hx hb dL_law_520 rfl (lv_at hl 1 rfl) ?_
  refine law_arg hx hb hX hbl hbA hS hN hl rfl rfl (k := 1) (by decide) (by omega) dL_law_521 dL_law_522 dL_law_523 dL_law_524 dL_law_525 ?_
  refine law_arg hx hb hX hbl hbA hS hN hl rfl rfl (k := 2) (by decide) (by omega) dL_law_526 dL_law_527 dL_law_528 dL_law_529 dL_law_530 ?_
  refine mr_callV (As := [.int (xs (i + 1)), .int (xs (i + 2))]) (rest := []) (st1 := [.int iv]) C0 hcX (cwV 2 C0.1.2.2.2.2 gL_law_X3_log rfl x1 x2 (by decide +kernel) ⟨by show _ ≤ 10; omega, by show _ ≤ 366; omega⟩) hM bx sx rfl rfl hM hS rfl rfl rfl hl.1 (Nat.le_of_ble_eq_true rfl) dL_law_531 ⟨Nat.le_of_ble_eq_true rfl, Nat.le_of_ble_eq_true rfl⟩ (fun H1 locs1 hM1 hS1 => ?_)
  refine lv_aload_n hx hb dL_law_534 rfl (lv_at hl 2 rfl) ?_
  refine law_arg hx hb hX hbl hbA hS1 hN hl rfl rfl (k := 1) (by decide) (by omega) dL_law_535 dL_law_536 dL_law_537 dL_law_538 dL_law_539 ?_
  refine law_arg hx hb hX hbl hbA hS1 hN hl rfl rfl (k := 2) (by decide) (by omega) dL_law_540 dL_law_541 dL_law_542 dL_law_543 dL_law_544 ?_
  refine mr_callV (As := [.int (xs (i + 1)), .int (xs (i + 2))]) (rest := [.int iv]) (st1 := [.int iv, .int iv]) C0 hcM (cwV 2 C0.1.2.2.2.2 gL_law_X4_log rfl y1 y2 (by decide +kernel) ⟨by show _ ≤ 10; omega, by show _ ≤ 366; omega⟩) hM1 bm sm rfl rfl hM1 hS1 rfl rfl rfl hl.1 (Nat.le_of_ble_eq_true rfl) dL_law_545 ⟨Nat.le_of_ble_eq_true rfl, Nat.le_of_ble_eq_true rfl⟩ (fun H2 locs2 hM2 hS2 => ?_)
  refine lv_icmp_eq (tgt := 699) hx hb dL_law_548 (by decide) (fun _ => ?_) (fun h => absurd rfl h)
  exact kk H2 locs2 Sh1 I2 J2 hM2 hS2 hI'
set_option maxHeartbeats 4000000 in
set_option maxRecDepth 100000 in
theorem law_c15 {p : Program} {l : Launch} {e : Env} {s : State} {m : MethodId} {below : List Frame} {meth : Method} {c : Code} {D : va_G} {T : Nat → ClassId} {L : List Nat} {A : Nat → Prop} {sb x b N i t : Nat} {xs : Nat → Int32} {Sh : hm_S} {I : hm_I} {J : hm_J} {H : Heap} {locs : List Loc} {ls : Array Slot} {Qq : State → Prop} (C0 : Cx p s m #[Value.ref sb] c code 4 wsL_law RL D T) (hX : va_X sb N xs s s.heap) (hbl : sb < s.heap.size) (hbA : ¬ A sb) (hN : N ≤ 2048) (hM : hm D T L A Sh I J H) (hS : va_S A s.heap H locs) (hI : Inv L x b t Sh I) (ht : t < 1000) (hi : i + 3 < N) (hl : lv_has ls 4 [(0, .ref sb), (1, .ref x), (2, .ref b), (3, .int (nI i))])
    (kk : ∀ (H1 : Heap) (locs1 : List Loc) (Sh1 : hm_S) (I1 : hm_I) (J1 : hm_J), hm D T L A Sh1 I1 J1 H1 → va_S A s.heap H1 locs1 → Inv L x b (t + 1) Sh1 I1 → W p l e room_1 s m #[Value.ref sb] below meth c H1 locs1 600000 7302250 Qq (F0 m 699 ls [])) : W p l e room_1 s m #[Value.ref sb] below meth c H locs 600000 7302250 Qq (F0 m 553 ls []) := by
  have hx := C0.1.1
  have hb := C0.1.2.1
  obtain ⟨v, Sh1, I1, J1, I2, J2, ⟨iv, rfl⟩, ⟨rX, x1, x2, x3, x4, hcX⟩, ⟨rM, y1, y2, y3, y4, hcM⟩, hI'⟩ := op_relation (xs (i + 1)) (xs (i + 2)) (xs (i + 3)) l D T L A x b t Sh I J ht hI
  obtain ⟨fx, bx, sx⟩ := inv_x hI
  obtain ⟨fm, bm, sm⟩ := inv_m hI'
  refine lv_aload_n hx hb dL_law_553 rfl (lv_at hl 1 rfl) ?_
  refine law_arg hx hb hX hbl hbA hS hN hl rfl rfl (k := 1) (by decide) (by omega) dL_law_554 dL_law_555 dL_law_556 dL_law_557 dL_law_558 ?_
  refine law_arg hx hb hX hbl hbA hS hN hl rfl rfl (k := 2) (by decide) (by omega) dL_law_559 dL_law_560 dL_law_561 dL_law_562 dL_law_563 ?_
  refine law_arg hx hb hX hbl hbA hS hN hl rfl rfl (k := 3) (by decide) (by omega) dL_law_564 dL_law_565 dL_law_566 dL_law_567 dL_law_568 ?_
  refine mr_callV (As := [.int (xs (i + 1)), .int (xs (i + 2)), .int (xs (i + 3))]) (rest := []) (st1 := [.int iv]) C0 hcX (cwV 3 C0.1.2.2.2.2 gL_law_X3_relation rfl x1 x2 (by decide +kernel) ⟨by show _ ≤ 10; omega, by show _ ≤ 366; omega⟩) hM bx sx rfl rfl hM hS rfl rfl rfl hl.1 (Nat.le_of_ble_eq_true rfl) dL_law_569 ⟨Nat.le_of_ble_eq_true rfl, Nat.le_of_ble_eq_true rfl⟩ (fun H1 locs1 hM1 hS1 => ?_)
  refine lv_aload_n hx hb dL_law_572 rfl (lv_at hl 2 rfl) ?_
  refine law_arg hx hb hX hbl hbA hS1 hN hl rfl rfl (k := 1) (by decide) (by omega) dL_law_573 dL_law_574 dL_law_575 dL_law_576 dL_law_577 ?_
  refine law_arg hx hb hX hbl hbA hS1 hN hl rfl rfl (k := 2) (by decide) (by omega) dL_law_578 dL_law_579 dL_law_580 dL_law_581 dL_law_582 ?_
  refine law_arg hx hb hX hbl hbA hS1 hN hl rfl rfl (k := 3) (by decide) (by omega) dL_law_583 dL_law_584 dL_law_585 dL_law_586 dL_law_587 ?_
  refine mr_callV (As := [.int (xs (i + 1)), .int (xs (i + 2)), .int (xs (i + 3))]) (rest := [.int iv]) (st1 := [.int iv, .int iv]) C0 hcM (cwV 3 C0.1.2.2.2.2 gL_law_X4_relation rfl y1 y2 (by decide +kernel) ⟨by show _ ≤ 10; omega, by show _ ≤ 366; omega⟩) hM1 bm sm rfl rfl hM1 hS1 rfl rfl rfl hl.1 (Nat.le_of_ble_eq_true rfl) dL_law_588 ⟨Nat.le_of_ble_eq_true rfl, Nat.le_of_ble_eq_true rfl⟩ (fun H2 locs2 hM2 hS2 => ?_)
  refine lv_icmp_eq (tgt := 699) hx hb dL_law_591 (by decide) (fun _ => ?_) (fun h => absurd rfl h)
  exact kk H2 locs2 Sh1 I2 J2 hM2 hS2 hI'
set_option maxHeartbeats 4000000 in
set_option maxRecDepth 100000 in
theorem law_c16 {p : Program} {l : Launch} {e : Env} {s : State} {m : MethodId} {below : List Frame} {meth : Method} {c : Code} {D : va_G} {T : Nat → ClassId} {L : List Nat} {A : Nat → Prop} {sb x b N i t : Nat} {xs : Nat → Int32} {Sh : hm_S} {I : hm_I} {J : hm_J} {H : Heap} {locs : List Loc} {ls : Array Slot} {Qq : State → Prop} (C0 : Cx p s m #[Value.ref sb] c code 4 wsL_law RL D T) (hX : va_X sb N xs s s.heap) (hbl : sb < s.heap.size) (hbA : ¬ A sb) (hN : N ≤ 2048) (hM : hm D T L A Sh I J H) (hS : va_S A s.heap H locs) (hI : Inv L x b t Sh I) (ht : t < 1000) (hi : i + 3 < N) (hl : lv_has ls 4 [(0, .ref sb), (1, .ref x), (2, .ref b), (3, .int (nI i))])
    (kk : ∀ (H1 : Heap) (locs1 : List Loc) (Sh1 : hm_S) (I1 : hm_I) (J1 : hm_J), hm D T L A Sh1 I1 J1 H1 → va_S A s.heap H1 locs1 → Inv L x b (t + 1) Sh1 I1 → W p l e room_1 s m #[Value.ref sb] below meth c H1 locs1 600000 7302250 Qq (F0 m 699 ls [])) : W p l e room_1 s m #[Value.ref sb] below meth c H locs 600000 7302250 Qq (F0 m 596 ls []) := by
  have hx := C0.1.1
  have hb := C0.1.2.1
  obtain ⟨v, Sh1, I1, J1, I2, J2, ⟨iv, rfl⟩, ⟨rX, x1, x2, x3, x4, hcX⟩, ⟨rM, y1, y2, y3, y4, hcM⟩, hI'⟩ := op_order (xs (i + 1)) (xs (i + 2)) l D T L A x b t Sh I J ht hI
  obtain ⟨fx, bx, sx⟩ := inv_x hI
  obtain ⟨fm, bm, sm⟩ := inv_m hI'
  refine lv_aload_n hx hb dL_law_596 rfl (lv_at hl 1 rfl) ?_
  refine law_arg hx hb hX hbl hbA hS hN hl rfl rfl (k := 1) (by decide) (by omega) dL_law_597 dL_law_598 dL_law_599 dL_law_600 dL_law_601 ?_
  refine law_arg hx hb hX hbl hbA hS hN hl rfl rfl (k := 2) (by decide) (by omega) dL_law_602 dL_law_603 dL_law_604 dL_law_605 dL_law_606 ?_
  refine mr_callV (As := [.int (xs (i + 1)), .int (xs (i + 2))]) (rest := []) (st1 := [.int iv]) C0 hcX (cwV 2 C0.1.2.2.2.2 gL_law_X3_order rfl x1 x2 (by decide +kernel) ⟨by show _ ≤ 10; omega, by show _ ≤ 366; omega⟩) hM bx sx rfl rfl hM hS rfl rfl rfl hl.1 (Nat.le_of_ble_eq_true rfl) dL_law_607 ⟨Nat.le_of_ble_eq_true rfl, Nat.le_of_ble_eq_true rfl⟩ (fun H1 locs1 hM1 hS1 => ?_)
  refine lv_aload_n hx hb dL_law_610 rfl (lv_at hl 2 rfl) ?_
  refine law_arg hx hb hX hbl hbA hS1 hN hl rfl rfl (k := 1) (by decide) (by omega) dL_law_611 dL_law_612 dL_law_613 dL_law_614 dL_law_615 ?_
  refine law_arg hx hb hX hbl hbA hS1 hN hl rfl rfl (k := 2) (by decide) (by omega) dL_law_616 dL_law_617 dL_law_618 dL_law_619 dL_law_620 ?_
  refine mr_callV (As := [.int (xs (i + 1)), .int (xs (i + 2))]) (rest := [.int iv]) (st1 := [.int iv, .int iv]) C0 hcM (cwV 2 C0.1.2.2.2.2 gL_law_X4_order rfl y1 y2 (by decide +kernel) ⟨by show _ ≤ 10; omega, by show _ ≤ 366; omega⟩) hM1 bm sm rfl rfl hM1 hS1 rfl rfl rfl hl.1 (Nat.le_of_ble_eq_true rfl) dL_law_621 ⟨Nat.le_of_ble_eq_true rfl, Nat.le_of_ble_eq_true rfl⟩ (fun H2 locs2 hM2 hS2 => ?_)
  refine lv_icmp_eq (tgt := 699) hx hb dL_law_624 (by decide) (fun _ => ?_) (fun h => absurd rfl h)
  exact kk H2 locs2 Sh1 I2 J2 hM2 hS2 hI'
set_option maxHeartbeats 4000000 in
set_option maxRecDepth 100000 in
theorem law_c17 {p : Program} {l : Launch} {e : Env} {s : State} {m : MethodId} {below : List Frame} {meth : Method} {c : Code} {D : va_G} {T : Nat → ClassId} {L : List Nat} {A : Nat → Prop} {sb x b N i t : Nat} {xs : Nat → Int32} {Sh : hm_S} {I : hm_I} {J : hm_J} {H : Heap} {locs : List Loc} {ls : Array Slot} {Qq : State → Prop} (C0 : Cx p s m #[Value.ref sb] c code 4 wsL_law RL D T) (hX : va_X sb N xs s s.heap) (hbl : sb < s.heap.size) (hbA : ¬ A sb) (hN : N ≤ 2048) (hM : hm D T L A Sh I J H) (hS : va_S A s.heap H locs) (hI : Inv L x b t Sh I) (ht : t < 1000) (hi : i + 3 < N) (hl : lv_has ls 4 [(0, .ref sb), (1, .ref x), (2, .ref b), (3, .int (nI i))])
    (kk : ∀ (H1 : Heap) (locs1 : List Loc) (Sh1 : hm_S) (I1 : hm_I) (J1 : hm_J), hm D T L A Sh1 I1 J1 H1 → va_S A s.heap H1 locs1 → Inv L x b (t + 1) Sh1 I1 → W p l e room_1 s m #[Value.ref sb] below meth c H1 locs1 600000 7302250 Qq (F0 m 699 ls [])) : W p l e room_1 s m #[Value.ref sb] below meth c H locs 600000 7302250 Qq (F0 m 629 ls []) := by
  have hx := C0.1.1
  have hb := C0.1.2.1
  obtain ⟨v, Sh1, I1, J1, I2, J2, ⟨iv, rfl⟩, ⟨rX, x1, x2, x3, x4, hcX⟩, ⟨rM, y1, y2, y3, y4, hcM⟩, hI'⟩ := op_lists (xs (i + 1)) l D T L A x b t Sh I J ht hI
  obtain ⟨fx, bx, sx⟩ := inv_x hI
  obtain ⟨fm, bm, sm⟩ := inv_m hI'
  refine lv_aload_n hx hb dL_law_629 rfl (lv_at hl 1 rfl) ?_
  refine law_arg hx hb hX hbl hbA hS hN hl rfl rfl (k := 1) (by decide) (by omega) dL_law_630 dL_law_631 dL_law_632 dL_law_633 dL_law_634 ?_
  refine mr_callV (As := [.int (xs (i + 1))]) (rest := []) (st1 := [.long iv]) C0 hcX (cwV 1 C0.1.2.2.2.2 gL_law_X3_lists rfl x1 x2 (by decide +kernel) ⟨by show _ ≤ 10; omega, by show _ ≤ 366; omega⟩) hM bx sx rfl rfl hM hS rfl rfl rfl hl.1 (Nat.le_of_ble_eq_true rfl) dL_law_635 ⟨Nat.le_of_ble_eq_true rfl, Nat.le_of_ble_eq_true rfl⟩ (fun H1 locs1 hM1 hS1 => ?_)
  refine lv_aload_n hx hb dL_law_638 rfl (lv_at hl 2 rfl) ?_
  refine law_arg hx hb hX hbl hbA hS1 hN hl rfl rfl (k := 1) (by decide) (by omega) dL_law_639 dL_law_640 dL_law_641 dL_law_642 dL_law_643 ?_
  refine mr_callV (As := [.int (xs (i + 1))]) (rest := [.long iv]) (st1 := [.long iv, .long iv]) C0 hcM (cwV 1 C0.1.2.2.2.2 gL_law_X4_lists rfl y1 y2 (by decide +kernel) ⟨by show _ ≤ 10; omega, by show _ ≤ 366; omega⟩) hM1 bm sm rfl rfl hM1 hS1 rfl rfl rfl hl.1 (Nat.le_of_ble_eq_true rfl) dL_law_644 ⟨Nat.le_of_ble_eq_true rfl, Nat.le_of_ble_eq_true rfl⟩ (fun H2 locs2 hM2 hS2 => ?_)
  refine W.lcmp hx hb dL_law_647 ?_
  have hz : lg_cmp iv iv = 0 := by unfold lg_cmp; rw [if_neg (by rw [gt_iff_lt, Int64.lt_iff_toInt_lt]; omega), if_pos rfl]
  refine lv_if_eq (tgt := 699) hx hb dL_law_648 (by decide) (fun _ => ?_) (fun h => absurd hz h)
  exact kk H2 locs2 Sh1 I2 J2 hM2 hS2 hI'
set_option maxHeartbeats 4000000 in
set_option maxRecDepth 100000 in
theorem law_c18 {p : Program} {l : Launch} {e : Env} {s : State} {m : MethodId} {below : List Frame} {meth : Method} {c : Code} {D : va_G} {T : Nat → ClassId} {L : List Nat} {A : Nat → Prop} {sb x b N i t : Nat} {xs : Nat → Int32} {Sh : hm_S} {I : hm_I} {J : hm_J} {H : Heap} {locs : List Loc} {ls : Array Slot} {Qq : State → Prop} (C0 : Cx p s m #[Value.ref sb] c code 4 wsL_law RL D T) (hX : va_X sb N xs s s.heap) (hbl : sb < s.heap.size) (hbA : ¬ A sb) (hN : N ≤ 2048) (hM : hm D T L A Sh I J H) (hS : va_S A s.heap H locs) (hI : Inv L x b t Sh I) (ht : t < 1000) (hi : i + 3 < N) (hl : lv_has ls 4 [(0, .ref sb), (1, .ref x), (2, .ref b), (3, .int (nI i))])
    (kk : ∀ (H1 : Heap) (locs1 : List Loc) (Sh1 : hm_S) (I1 : hm_I) (J1 : hm_J), hm D T L A Sh1 I1 J1 H1 → va_S A s.heap H1 locs1 → Inv L x b (t + 1) Sh1 I1 → W p l e room_1 s m #[Value.ref sb] below meth c H1 locs1 600000 7302250 Qq (F0 m 699 ls [])) : W p l e room_1 s m #[Value.ref sb] below meth c H locs 600000 7302250 Qq (F0 m 653 ls []) := by
  have hx := C0.1.1
  have hb := C0.1.2.1
  obtain ⟨v, Sh1, I1, J1, I2, J2, ⟨iv, rfl⟩, ⟨rX, x1, x2, x3, x4, hcX⟩, ⟨rM, y1, y2, y3, y4, hcM⟩, hI'⟩ := op_keep (xs (i + 1)) l D T L A x b t Sh I J ht hI
  obtain ⟨fx, bx, sx⟩ := inv_x hI
  obtain ⟨fm, bm, sm⟩ := inv_m hI'
  refine lv_aload_n hx hb dL_law_653 rfl (lv_at hl 1 rfl) ?_
  refine law_arg hx hb hX hbl hbA hS hN hl rfl rfl (k := 1) (by decide) (by omega) dL_law_654 dL_law_655 dL_law_656 dL_law_657 dL_law_658 ?_
  refine mr_callV (As := [.int (xs (i + 1))]) (rest := []) (st1 := [.int iv]) C0 hcX (cwV 1 C0.1.2.2.2.2 gL_law_X3_keep rfl x1 x2 (by decide +kernel) ⟨by show _ ≤ 10; omega, by show _ ≤ 366; omega⟩) hM bx sx rfl rfl hM hS rfl rfl rfl hl.1 (Nat.le_of_ble_eq_true rfl) dL_law_659 ⟨Nat.le_of_ble_eq_true rfl, Nat.le_of_ble_eq_true rfl⟩ (fun H1 locs1 hM1 hS1 => ?_)
  refine lv_aload_n hx hb dL_law_662 rfl (lv_at hl 2 rfl) ?_
  refine law_arg hx hb hX hbl hbA hS1 hN hl rfl rfl (k := 1) (by decide) (by omega) dL_law_663 dL_law_664 dL_law_665 dL_law_666 dL_law_667 ?_
  refine mr_callV (As := [.int (xs (i + 1))]) (rest := [.int iv]) (st1 := [.int iv, .int iv]) C0 hcM (cwV 1 C0.1.2.2.2.2 gL_law_X4_keep rfl y1 y2 (by decide +kernel) ⟨by show _ ≤ 10; omega, by show _ ≤ 366; omega⟩) hM1 bm sm rfl rfl hM1 hS1 rfl rfl rfl hl.1 (Nat.le_of_ble_eq_true rfl) dL_law_668 ⟨Nat.le_of_ble_eq_true rfl, Nat.le_of_ble_eq_true rfl⟩ (fun H2 locs2 hM2 hS2 => ?_)
  refine lv_icmp_eq (tgt := 699) hx hb dL_law_671 (by decide) (fun _ => ?_) (fun h => absurd rfl h)
  exact kk H2 locs2 Sh1 I2 J2 hM2 hS2 hI'
set_option maxHeartbeats 4000000 in
set_option maxRecDepth 100000 in
theorem law_c19 {p : Program} {l : Launch} {e : Env} {s : State} {m : MethodId} {below : List Frame} {meth : Method} {c : Code} {D : va_G} {T : Nat → ClassId} {L : List Nat} {A : Nat → Prop} {sb x b N i t : Nat} {xs : Nat → Int32} {Sh : hm_S} {I : hm_I} {J : hm_J} {H : Heap} {locs : List Loc} {ls : Array Slot} {Qq : State → Prop} (C0 : Cx p s m #[Value.ref sb] c code 4 wsL_law RL D T) (hX : va_X sb N xs s s.heap) (hbl : sb < s.heap.size) (hbA : ¬ A sb) (hN : N ≤ 2048) (hM : hm D T L A Sh I J H) (hS : va_S A s.heap H locs) (hI : Inv L x b t Sh I) (ht : t < 1000) (hi : i + 3 < N) (hl : lv_has ls 4 [(0, .ref sb), (1, .ref x), (2, .ref b), (3, .int (nI i))])
    (kk : ∀ (H1 : Heap) (locs1 : List Loc) (Sh1 : hm_S) (I1 : hm_I) (J1 : hm_J), hm D T L A Sh1 I1 J1 H1 → va_S A s.heap H1 locs1 → Inv L x b (t + 1) Sh1 I1 → W p l e room_1 s m #[Value.ref sb] below meth c H1 locs1 600000 7302250 Qq (F0 m 699 ls [])) : W p l e room_1 s m #[Value.ref sb] below meth c H locs 600000 7302250 Qq (F0 m 676 ls []) := by
  have hx := C0.1.1
  have hb := C0.1.2.1
  obtain ⟨v, Sh1, I1, J1, I2, J2, ⟨iv, rfl⟩, ⟨rX, x1, x2, x3, x4, hcX⟩, ⟨rM, y1, y2, y3, y4, hcM⟩, hI'⟩ := op_back (xs (i + 1)) l D T L A x b t Sh I J ht hI
  obtain ⟨fx, bx, sx⟩ := inv_x hI
  obtain ⟨fm, bm, sm⟩ := inv_m hI'
  refine lv_aload_n hx hb dL_law_676 rfl (lv_at hl 1 rfl) ?_
  refine law_arg hx hb hX hbl hbA hS hN hl rfl rfl (k := 1) (by decide) (by omega) dL_law_677 dL_law_678 dL_law_679 dL_law_680 dL_law_681 ?_
  refine mr_callV (As := [.int (xs (i + 1))]) (rest := []) (st1 := [.int iv]) C0 hcX (cwV 1 C0.1.2.2.2.2 gL_law_X3_back rfl x1 x2 (by decide +kernel) ⟨by show _ ≤ 10; omega, by show _ ≤ 366; omega⟩) hM bx sx rfl rfl hM hS rfl rfl rfl hl.1 (Nat.le_of_ble_eq_true rfl) dL_law_682 ⟨Nat.le_of_ble_eq_true rfl, Nat.le_of_ble_eq_true rfl⟩ (fun H1 locs1 hM1 hS1 => ?_)
  refine lv_aload_n hx hb dL_law_685 rfl (lv_at hl 2 rfl) ?_
  refine law_arg hx hb hX hbl hbA hS1 hN hl rfl rfl (k := 1) (by decide) (by omega) dL_law_686 dL_law_687 dL_law_688 dL_law_689 dL_law_690 ?_
  refine mr_callV (As := [.int (xs (i + 1))]) (rest := [.int iv]) (st1 := [.int iv, .int iv]) C0 hcM (cwV 1 C0.1.2.2.2.2 gL_law_X4_back rfl y1 y2 (by decide +kernel) ⟨by show _ ≤ 10; omega, by show _ ≤ 366; omega⟩) hM1 bm sm rfl rfl hM1 hS1 rfl rfl rfl hl.1 (Nat.le_of_ble_eq_true rfl) dL_law_691 ⟨Nat.le_of_ble_eq_true rfl, Nat.le_of_ble_eq_true rfl⟩ (fun H2 locs2 hM2 hS2 => ?_)
  refine lv_icmp_eq (tgt := 699) hx hb dL_law_694 (by decide) (fun _ => ?_) (fun h => absurd rfl h)
  exact kk H2 locs2 Sh1 I2 J2 hM2 hS2 hI'
