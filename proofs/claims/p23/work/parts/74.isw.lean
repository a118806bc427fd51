/-! part 74: isWitness (laid by wip/p23/lay10.py) -/
set_option maxHeartbeats 4000000 in
set_option maxRecDepth 100000 in
theorem iw_loop {p : Program} {l : Launch} {e : Env} {R : Room} {s : State} {m : MethodId} {args : Array Value} {below : List Frame} {meth : Method} {c : Code} {Qq : State → Prop} {D : va_G} {T : Nat → ClassId} {H0 : Heap} {x n t : Nat} {w : Nat → Int32} {P Q : Nat → Nat → Int32} {kp : Nat → Bool} {i i' : Nat} {nn : Nat} (C0 : Cx p s m args c cL_isWitness 6 wsL_isWitness RL D T) (hR : R = { frames := 8, cells := 0, slots := 0, locals := 190 }) (hi : i < 8) (hi' : i' < 8) (hne : i ≠ i') (h8 : nn < 8) (hw : ∀ k, k ≤ nn → wlk (mk w 176) i nn i' k < 8 ∧ fWit (mk w 176) i i' k = nI (wlk (mk w 176) i nn i' k)) (he : ∀ k, k < nn → wlk (mk w 176) i nn i' k ≠ wlk (mk w 176) i nn i' (k + 1) ∧ relN (mk w 176) (wlk (mk w 176) i nn i' k) (wlk (mk w 176) i nn i' (k + 1)) = 1)
    (kk : ∀ (H1 : Heap) (locs1 : List Loc) (ls1 : Array Slot), Wo D T x t (n, w, P, Q, kp) H1 → va_S (Rg x) H0 H1 locs1 → lv_has ls1 6 [(0, .ref x), (1, .int (nI i)), (2, .int (nI i')), (3, .int (nI nn)), (4, .int (nI (relN (mk w 176) i' i))), (5, .int (nI nn))] → W p l e R s m args below meth c H1 locs1 0 0 Qq (F0 m 119 ls1 [])) :
    ∀ (r k : Nat) (H : Heap) (locs : List Loc) (ls : Array Slot), k + r = nn → Wo D T x t (n, w, P, Q, kp) H → va_S (Rg x) H0 H locs → lv_has ls 6 [(0, .ref x), (1, .int (nI i)), (2, .int (nI i')), (3, .int (nI nn)), (4, .int (nI (relN (mk w 176) i' i))), (5, .int (nI k))] → W p l e R s m args below meth c H locs 0 0 Qq (F0 m 78 ls []) := by
  have hx := C0.1.1
  have hb := C0.1.2.1
  subst hR
  intro r
  induction r with
  | zero =>
    intro k H locs ls hk hW hS hl
    have e : k = nn := by omega
    subst e
    refine lv_iload hx hb dL_isWitness_78 (lv_at hl 5 rfl) ?_
    refine lv_iload_n hx hb dL_isWitness_80 rfl (lv_at hl 3 rfl) ?_
    refine mr_geN (x := k) (y := k) (tgt := 119) C0 dL_isWitness_81 (by decide) (by omega) (by omega) (fun c => ?_) (fun c => absurd c (by omega))
    exact kk _ _ _ hW hS hl
  | succ r ih =>
    intro k H locs ls hk hW hS hl
    refine lv_iload hx hb dL_isWitness_78 (lv_at hl 5 rfl) ?_
    refine lv_iload_n hx hb dL_isWitness_80 rfl (lv_at hl 3 rfl) ?_
    refine mr_geN (x := k) (y := nn) (tgt := 119) C0 dL_isWitness_81 (by decide) (by omega) (by omega) (fun c81 => absurd c81 (by omega)) (fun c81 => ?_)
    clear c81
    refine lv_aload_n hx hb dL_isWitness_84 rfl (lv_at hl 0 rfl) ?_
    refine lv_iconst (v := -1) hx hb dL_isWitness_85 (by decide) ?_
    refine lv_aload_n hx hb dL_isWitness_86 rfl (lv_at hl 0 rfl) ?_
    refine lv_iload_n hx hb dL_isWitness_87 rfl (lv_at hl 1 rfl) ?_
    refine lv_iload_n hx hb dL_isWitness_88 rfl (lv_at hl 2 rfl) ?_
    refine lv_iload hx hb dL_isWitness_89 (lv_at hl 5 rfl) ?_
    refine mo_call (x := x) (As := [.int (nI i), .int (nI i'), .int (nI k)]) (rest := [.int (-1), .ref x]) (st1 := [.int (fWit (mk w 176) i i' k), .int (-1), .ref x]) C0 (op_witness hi hi' hne (by omega)) hW (fun rm x1 x2 x3 x4 => cwV 3 C0.1.2.2.2.2 gL_isWitness_X3_witness rfl x1 x2 (by decide +kernel) ⟨by show _ ≤ 8; omega, by show _ ≤ 190; omega⟩) hS (fun _ h => h) rfl rfl rfl hl.1 (Nat.le_of_ble_eq_true rfl) dL_isWitness_91 ⟨Nat.le_of_ble_eq_true rfl, Nat.le_of_ble_eq_true rfl⟩ (fun H1 locs1 hW hF hS1 => ?_)
    clear hS
    have hS := hS1
    clear hS1 hF
    refine mr_top (y := nI (wlk (mk w 176) i nn i' k)) ((hw k (by omega)).2) ?_
    refine lv_aload_n hx hb dL_isWitness_94 rfl (lv_at hl 0 rfl) ?_
    refine lv_iload_n hx hb dL_isWitness_95 rfl (lv_at hl 1 rfl) ?_
    refine lv_iload_n hx hb dL_isWitness_96 rfl (lv_at hl 2 rfl) ?_
    refine lv_iload hx hb dL_isWitness_97 (lv_at hl 5 rfl) ?_
    refine lv_iconst (v := nI 1) hx hb dL_isWitness_99 (by decide) ?_
    refine mr_iaddN (z := k + 1) C0 (rfl) dL_isWitness_100 ?_
    refine mo_call (x := x) (As := [.int (nI i), .int (nI i'), .int (nI (k + 1))]) (rest := [.int (nI (wlk (mk w 176) i nn i' k)), .int (-1), .ref x]) (st1 := [.int (fWit (mk w 176) i i' (k + 1)), .int (nI (wlk (mk w 176) i nn i' k)), .int (-1), .ref x]) C0 (op_witness hi hi' hne (by omega)) hW (fun rm x1 x2 x3 x4 => cwV 3 C0.1.2.2.2.2 gL_isWitness_X3_witness rfl x1 x2 (by decide +kernel) ⟨by show _ ≤ 8; omega, by show _ ≤ 190; omega⟩) hS (fun _ h => h) rfl rfl rfl hl.1 (Nat.le_of_ble_eq_true rfl) dL_isWitness_101 ⟨Nat.le_of_ble_eq_true rfl, Nat.le_of_ble_eq_true rfl⟩ (fun H1 locs1 hW hF hS1 => ?_)
    clear hS
    have hS := hS1
    clear hS1 hF
    refine mr_top (y := nI (wlk (mk w 176) i nn i' (k + 1))) ((hw (k + 1) (by omega)).2) ?_
    refine mo_call (x := x) (As := [.int (-1), .int (nI (wlk (mk w 176) i nn i' k)), .int (nI (wlk (mk w 176) i nn i' (k + 1)))]) (rest := []) (st1 := [.int (nI (relN (mk w 176) (wlk (mk w 176) i nn i' k) (wlk (mk w 176) i nn i' (k + 1))))]) C0 (op_relation (hw k (by omega)).1 (hw (k + 1) (by omega)).1 (he k (by omega)).1 (Or.inl ⟨rfl, rfl⟩)) hW (fun rm x1 x2 x3 x4 => cwV 3 C0.1.2.2.2.2 gL_isWitness_X3_relation rfl x1 x2 (by decide +kernel) ⟨by show _ ≤ 8; omega, by show _ ≤ 190; omega⟩) hS (fun _ h => h) rfl rfl rfl hl.1 (Nat.le_of_ble_eq_true rfl) dL_isWitness_104 ⟨Nat.le_of_ble_eq_true rfl, Nat.le_of_ble_eq_true rfl⟩ (fun H1 locs1 hW hF hS1 => ?_)
    clear hS
    have hS := hS1
    clear hS1 hF
    refine mr_top (y := nI 1) (congrArg nI (he k (by omega)).2) ?_
    refine lv_iconst (v := nI 1) hx hb dL_isWitness_107 (by decide) ?_
    refine lv_icmp_eq (tgt := 113) hx hb dL_isWitness_108 (by decide) (fun c108 => ?_) (fun c108 => absurd rfl c108)
    clear c108
    refine lv_iinc (k := 5) (v := nI (k + 1)) (lv' := [(5, .int (nI (k + 1))), (0, .ref x), (1, .int (nI i)), (2, .int (nI i')), (3, .int (nI nn)), (4, .int (nI (relN (mk w 176) i' i)))]) hx hb dL_isWitness_113 hl rfl (by rw [show Int32.ofInt 1 = nI 1 from by decide, nI_add]) (by decide) rfl (fun ls hl => ?_)
    refine lv_goto (tgt := 78) hx hb dL_isWitness_116 (by decide) ?_
    exact ih (k + 1) _ _ _ (by omega) hW hS (lv_sub hl [1, 2, 3, 4, 5, 0] rfl)
set_option maxHeartbeats 4000000 in
set_option maxRecDepth 100000 in
theorem iw_end1 {p : Program} {l : Launch} {e : Env} {R : Room} {s : State} {m : MethodId} {args : Array Value} {below : List Frame} {meth : Method} {c : Code} {Qq : State → Prop} {D : va_G} {T : Nat → ClassId} {x n t : Nat} {w : Nat → Int32} {P Q : Nat → Nat → Int32} {kp : Nat → Bool} {i i' : Nat} {nn : Nat} {H : Heap} {locs : List Loc} {ls : Array Slot} (C0 : Cx p s m args c cL_isWitness 6 wsL_isWitness RL D T) (hR : R = { frames := 8, cells := 0, slots := 0, locals := 190 }) (hi : i < 8) (hi' : i' < 8) (hne : i ≠ i') (h8 : nn < 8) (hw : ∀ k, k ≤ nn → wlk (mk w 176) i nn i' k < 8 ∧ fWit (mk w 176) i i' k = nI (wlk (mk w 176) i nn i' k)) (h0 : wlk (mk w 176) i nn i' 0 = i') (hn : wlk (mk w 176) i nn i' nn = i) (hz : fWit (mk w 176) i i' (nn + 1) = -9) (hcy : (clo (mk w 176) i').testBit i = true) (hr1 : relN (mk w 176) i' i = 1 ↔ nn = 1) (h1 : nn = 1)
    (hr : meth.sig.returnType = some .boolean) (hlk : meth.locks = false) (hQ : Qq = MQ below (CtQ (Rg x) (some (.int (bI true))) (fun H => Wo D T x t (n, w, P, Q, kp) H)) args s 0 0 (Rg x)) (hW : Wo D T x t (n, w, P, Q, kp) H) (hS : va_S (Rg x) s.heap H locs) (hl : lv_has ls 6 [(0, .ref x), (1, .int (nI i)), (2, .int (nI i')), (3, .int (nI nn)), (4, .int (nI (relN (mk w 176) i' i))), (5, .int (nI nn))]) : W p l e R s m args below meth c H locs 0 0 Qq (F0 m 119 ls []) := by
  have hx := C0.1.1
  have hb := C0.1.2.1
  subst hR
  refine lv_iload_n hx hb dL_isWitness_119 rfl (lv_at hl 3 rfl) ?_
  refine lv_iconst (v := nI 1) hx hb dL_isWitness_120 (by decide) ?_
  refine mr_neN (x := nn) (y := 1) (tgt := 128) C0 dL_isWitness_121 (by decide) (by omega) (by omega) (fun c121 => absurd c121 (by omega)) (fun c121 => ?_)
  clear c121
  refine lv_iconst (v := nI 1) hx hb dL_isWitness_124 (by decide) ?_
  refine lv_goto (tgt := 129) hx hb dL_isWitness_125 (by decide) ?_
  refine lv_iload hx hb dL_isWitness_129 (lv_at hl 4 rfl) ?_
  refine lv_iconst (v := nI 1) hx hb dL_isWitness_131 (by decide) ?_
  refine mr_neN (x := relN (mk w 176) i' i) (y := 1) (tgt := 139) C0 dL_isWitness_132 (by decide) (by have := rel_le (mk w 176) i' i; omega) (by decide) (fun c132 => absurd (hr1.mpr h1) c132) (fun c132 => ?_)
  clear c132
  refine lv_iconst (v := nI 1) hx hb dL_isWitness_135 (by decide) ?_
  refine lv_goto (tgt := 140) hx hb dL_isWitness_136 (by decide) ?_
  refine lv_icmp_ne (tgt := 195) hx hb dL_isWitness_140 (by decide) (fun c140 => absurd rfl c140) (fun c140 => ?_)
  clear c140
  refine lv_aload_n hx hb dL_isWitness_143 rfl (lv_at hl 0 rfl) ?_
  refine lv_iload_n hx hb dL_isWitness_144 rfl (lv_at hl 1 rfl) ?_
  refine lv_iload_n hx hb dL_isWitness_145 rfl (lv_at hl 2 rfl) ?_
  refine lv_iconst (v := nI 0) hx hb dL_isWitness_146 (by decide) ?_
  refine mo_call (x := x) (As := [.int (nI i), .int (nI i'), .int (nI 0)]) (rest := []) (st1 := [.int (fWit (mk w 176) i i' 0)]) C0 (op_witness hi hi' hne (by omega)) hW (fun rm x1 x2 x3 x4 => cwV 3 C0.1.2.2.2.2 gL_isWitness_X3_witness rfl x1 x2 (by decide +kernel) ⟨by show _ ≤ 8; omega, by show _ ≤ 190; omega⟩) hS (fun _ h => h) rfl rfl rfl hl.1 (Nat.le_of_ble_eq_true rfl) dL_isWitness_147 ⟨Nat.le_of_ble_eq_true rfl, Nat.le_of_ble_eq_true rfl⟩ (fun H1 locs1 hW hF hS1 => ?_)
  clear hS
  have hS := hS1
  clear hS1 hF
  refine mr_top (y := nI i') ((hw 0 (Nat.zero_le _)).2.trans (congrArg nI h0)) ?_
  refine lv_iload_n hx hb dL_isWitness_150 rfl (lv_at hl 2 rfl) ?_
  refine lv_icmp_ne (tgt := 195) hx hb dL_isWitness_151 (by decide) (fun c151 => absurd rfl c151) (fun c151 => ?_)
  clear c151
  refine lv_aload_n hx hb dL_isWitness_154 rfl (lv_at hl 0 rfl) ?_
  refine lv_iload_n hx hb dL_isWitness_155 rfl (lv_at hl 1 rfl) ?_
  refine lv_iload_n hx hb dL_isWitness_156 rfl (lv_at hl 2 rfl) ?_
  refine lv_iload_n hx hb dL_isWitness_157 rfl (lv_at hl 3 rfl) ?_
  refine mo_call (x := x) (As := [.int (nI i), .int (nI i'), .int (nI nn)]) (rest := []) (st1 := [.int (fWit (mk w 176) i i' nn)]) C0 (op_witness hi hi' hne (by omega)) hW (fun rm x1 x2 x3 x4 => cwV 3 C0.1.2.2.2.2 gL_isWitness_X3_witness rfl x1 x2 (by decide +kernel) ⟨by show _ ≤ 8; omega, by show _ ≤ 190; omega⟩) hS (fun _ h => h) rfl rfl rfl hl.1 (Nat.le_of_ble_eq_true rfl) dL_isWitness_158 ⟨Nat.le_of_ble_eq_true rfl, Nat.le_of_ble_eq_true rfl⟩ (fun H1 locs1 hW hF hS1 => ?_)
  clear hS
  have hS := hS1
  clear hS1 hF
  refine mr_top (y := nI i) ((hw nn (Nat.le_refl _)).2.trans (congrArg nI hn)) ?_
  refine lv_iload_n hx hb dL_isWitness_161 rfl (lv_at hl 1 rfl) ?_
  refine lv_icmp_ne (tgt := 195) hx hb dL_isWitness_162 (by decide) (fun c162 => absurd rfl c162) (fun c162 => ?_)
  clear c162
  refine lv_aload_n hx hb dL_isWitness_165 rfl (lv_at hl 0 rfl) ?_
  refine lv_iload_n hx hb dL_isWitness_166 rfl (lv_at hl 1 rfl) ?_
  refine lv_iload_n hx hb dL_isWitness_167 rfl (lv_at hl 2 rfl) ?_
  refine lv_iload_n hx hb dL_isWitness_168 rfl (lv_at hl 3 rfl) ?_
  refine lv_iconst (v := nI 1) hx hb dL_isWitness_169 (by decide) ?_
  refine mr_iaddN (z := nn + 1) C0 (rfl) dL_isWitness_170 ?_
  refine mo_call (x := x) (As := [.int (nI i), .int (nI i'), .int (nI (nn + 1))]) (rest := []) (st1 := [.int (fWit (mk w 176) i i' (nn + 1))]) C0 (op_witness hi hi' hne (by omega)) hW (fun rm x1 x2 x3 x4 => cwV 3 C0.1.2.2.2.2 gL_isWitness_X3_witness rfl x1 x2 (by decide +kernel) ⟨by show _ ≤ 8; omega, by show _ ≤ 190; omega⟩) hS (fun _ h => h) rfl rfl rfl hl.1 (Nat.le_of_ble_eq_true rfl) dL_isWitness_171 ⟨Nat.le_of_ble_eq_true rfl, Nat.le_of_ble_eq_true rfl⟩ (fun H1 locs1 hW hF hS1 => ?_)
  clear hS
  have hS := hS1
  clear hS1 hF
  refine mr_top (y := -9) (hz) ?_
  refine lv_bipush (v := -9) hx hb dL_isWitness_174 (by decide) ?_
  refine lv_icmp_ne (tgt := 195) hx hb dL_isWitness_176 (by decide) (fun c176 => absurd rfl c176) (fun c176 => ?_)
  clear c176
  refine lv_aload_n hx hb dL_isWitness_179 rfl (lv_at hl 0 rfl) ?_
  refine lv_iload_n hx hb dL_isWitness_180 rfl (lv_at hl 1 rfl) ?_
  refine lv_iload_n hx hb dL_isWitness_181 rfl (lv_at hl 2 rfl) ?_
  refine lv_iconst (v := nI 1) hx hb dL_isWitness_182 (by decide) ?_
  refine mo_call (x := x) (As := [.int (nI i), .int (nI i'), .int (nI 1)]) (rest := []) (st1 := [.int (-4)]) C0 (op_cycle hi hi' hne hcy) hW (fun rm x1 x2 x3 x4 => cwV 3 C0.1.2.2.2.2 gL_isWitness_X3_edge rfl x1 x2 (by decide +kernel) ⟨by show _ ≤ 8; omega, by show _ ≤ 190; omega⟩) hS (fun _ h => h) rfl rfl rfl hl.1 (Nat.le_of_ble_eq_true rfl) dL_isWitness_183 ⟨Nat.le_of_ble_eq_true rfl, Nat.le_of_ble_eq_true rfl⟩ (fun H1 locs1 hW hF hS1 => ?_)
  clear hS
  have hS := hS1
  clear hS1 hF
  refine lv_bipush (v := -4) hx hb dL_isWitness_186 (by decide) ?_
  refine lv_icmp_ne (tgt := 195) hx hb dL_isWitness_188 (by decide) (fun c188 => absurd rfl c188) (fun c188 => ?_)
  clear c188
  refine lv_iconst (v := nI 1) hx hb dL_isWitness_191 (by decide) ?_
  refine lv_goto (tgt := 196) hx hb dL_isWitness_192 (by decide) ?_
  refine mr_top (y := bI true) (by decide) ?_
  exact mr_zret (b := true) C0 hr hlk hQ hS rfl hW (Nat.le_refl _) (Nat.le_refl _) dL_isWitness_196
set_option maxHeartbeats 4000000 in
set_option maxRecDepth 100000 in
theorem iw_end2 {p : Program} {l : Launch} {e : Env} {R : Room} {s : State} {m : MethodId} {args : Array Value} {below : List Frame} {meth : Method} {c : Code} {Qq : State → Prop} {D : va_G} {T : Nat → ClassId} {x n t : Nat} {w : Nat → Int32} {P Q : Nat → Nat → Int32} {kp : Nat → Bool} {i i' : Nat} {nn : Nat} {H : Heap} {locs : List Loc} {ls : Array Slot} (C0 : Cx p s m args c cL_isWitness 6 wsL_isWitness RL D T) (hR : R = { frames := 8, cells := 0, slots := 0, locals := 190 }) (hi : i < 8) (hi' : i' < 8) (hne : i ≠ i') (h8 : nn < 8) (hw : ∀ k, k ≤ nn → wlk (mk w 176) i nn i' k < 8 ∧ fWit (mk w 176) i i' k = nI (wlk (mk w 176) i nn i' k)) (h0 : wlk (mk w 176) i nn i' 0 = i') (hn : wlk (mk w 176) i nn i' nn = i) (hz : fWit (mk w 176) i i' (nn + 1) = -9) (hcy : (clo (mk w 176) i').testBit i = true) (hr1 : relN (mk w 176) i' i = 1 ↔ nn = 1) (h1 : ¬ nn = 1)
    (hr : meth.sig.returnType = some .boolean) (hlk : meth.locks = false) (hQ : Qq = MQ below (CtQ (Rg x) (some (.int (bI true))) (fun H => Wo D T x t (n, w, P, Q, kp) H)) args s 0 0 (Rg x)) (hW : Wo D T x t (n, w, P, Q, kp) H) (hS : va_S (Rg x) s.heap H locs) (hl : lv_has ls 6 [(0, .ref x), (1, .int (nI i)), (2, .int (nI i')), (3, .int (nI nn)), (4, .int (nI (relN (mk w 176) i' i))), (5, .int (nI nn))]) : W p l e R s m args below meth c H locs 0 0 Qq (F0 m 119 ls []) := by
  have hx := C0.1.1
  have hb := C0.1.2.1
  subst hR
  refine lv_iload_n hx hb dL_isWitness_119 rfl (lv_at hl 3 rfl) ?_
  refine lv_iconst (v := nI 1) hx hb dL_isWitness_120 (by decide) ?_
  refine mr_neN (x := nn) (y := 1) (tgt := 128) C0 dL_isWitness_121 (by decide) (by omega) (by omega) (fun c121 => ?_) (fun c121 => absurd c121 (by omega))
  clear c121
  refine lv_iconst (v := nI 0) hx hb dL_isWitness_128 (by decide) ?_
  refine lv_iload hx hb dL_isWitness_129 (lv_at hl 4 rfl) ?_
  refine lv_iconst (v := nI 1) hx hb dL_isWitness_131 (by decide) ?_
  refine mr_neN (x := relN (mk w 176) i' i) (y := 1) (tgt := 139) C0 dL_isWitness_132 (by decide) (by have := rel_le (mk w 176) i' i; omega) (by decide) (fun c132 => ?_) (fun c132 => absurd (hr1.mp c132) h1)
  clear c132
  refine lv_iconst (v := nI 0) hx hb dL_isWitness_139 (by decide) ?_
  refine lv_icmp_ne (tgt := 195) hx hb dL_isWitness_140 (by decide) (fun c140 => absurd rfl c140) (fun c140 => ?_)
  clear c140
  refine lv_aload_n hx hb dL_isWitness_143 rfl (lv_at hl 0 rfl) ?_
  refine lv_iload_n hx hb dL_isWitness_144 rfl (lv_at hl 1 rfl) ?_
  refine lv_iload_n hx hb dL_isWitness_145 rfl (lv_at hl 2 rfl) ?_
  refine lv_iconst (v := nI 0) hx hb dL_isWitness_146 (by decide) ?_
  refine mo_call (x := x) (As := [.int (nI i), .int (nI i'), .int (nI 0)]) (rest := []) (st1 := [.int (fWit (mk w 176) i i' 0)]) C0 (op_witness hi hi' hne (by omega)) hW (fun rm x1 x2 x3 x4 => cwV 3 C0.1.2.2.2.2 gL_isWitness_X3_witness rfl x1 x2 (by decide +kernel) ⟨by show _ ≤ 8; omega, by show _ ≤ 190; omega⟩) hS (fun _ h => h) rfl rfl rfl hl.1 (Nat.le_of_ble_eq_true rfl) dL_isWitness_147 ⟨Nat.le_of_ble_eq_true rfl, Nat.le_of_ble_eq_true rfl⟩ (fun H1 locs1 hW hF hS1 => ?_)
  clear hS
  have hS := hS1
  clear hS1 hF
  refine mr_top (y := nI i') ((hw 0 (Nat.zero_le _)).2.trans (congrArg nI h0)) ?_
  refine lv_iload_n hx hb dL_isWitness_150 rfl (lv_at hl 2 rfl) ?_
  refine lv_icmp_ne (tgt := 195) hx hb dL_isWitness_151 (by decide) (fun c151 => absurd rfl c151) (fun c151 => ?_)
  clear c151
  refine lv_aload_n hx hb dL_isWitness_154 rfl (lv_at hl 0 rfl) ?_
  refine lv_iload_n hx hb dL_isWitness_155 rfl (lv_at hl 1 rfl) ?_
  refine lv_iload_n hx hb dL_isWitness_156 rfl (lv_at hl 2 rfl) ?_
  refine lv_iload_n hx hb dL_isWitness_157 rfl (lv_at hl 3 rfl) ?_
  refine mo_call (x := x) (As := [.int (nI i), .int (nI i'), .int (nI nn)]) (rest := []) (st1 := [.int (fWit (mk w 176) i i' nn)]) C0 (op_witness hi hi' hne (by omega)) hW (fun rm x1 x2 x3 x4 => cwV 3 C0.1.2.2.2.2 gL_isWitness_X3_witness rfl x1 x2 (by decide +kernel) ⟨by show _ ≤ 8; omega, by show _ ≤ 190; omega⟩) hS (fun _ h => h) rfl rfl rfl hl.1 (Nat.le_of_ble_eq_true rfl) dL_isWitness_158 ⟨Nat.le_of_ble_eq_true rfl, Nat.le_of_ble_eq_true rfl⟩ (fun H1 locs1 hW hF hS1 => ?_)
  clear hS
  have hS := hS1
  clear hS1 hF
  refine mr_top (y := nI i) ((hw nn (Nat.le_refl _)).2.trans (congrArg nI hn)) ?_
  refine lv_iload_n hx hb dL_isWitness_161 rfl (lv_at hl 1 rfl) ?_
  refine lv_icmp_ne (tgt := 195) hx hb dL_isWitness_162 (by decide) (fun c162 => absurd rfl c162) (fun c162 => ?_)
  clear c162
  refine lv_aload_n hx hb dL_isWitness_165 rfl (lv_at hl 0 rfl) ?_
  refine lv_iload_n hx hb dL_isWitness_166 rfl (lv_at hl 1 rfl) ?_
  refine lv_iload_n hx hb dL_isWitness_167 rfl (lv_at hl 2 rfl) ?_
  refine lv_iload_n hx hb dL_isWitness_168 rfl (lv_at hl 3 rfl) ?_
  refine lv_iconst (v := nI 1) hx hb dL_isWitness_169 (by decide) ?_
  refine mr_iaddN (z := nn + 1) C0 (rfl) dL_isWitness_170 ?_
  refine mo_call (x := x) (As := [.int (nI i), .int (nI i'), .int (nI (nn + 1))]) (rest := []) (st1 := [.int (fWit (mk w 176) i i' (nn + 1))]) C0 (op_witness hi hi' hne (by omega)) hW (fun rm x1 x2 x3 x4 => cwV 3 C0.1.2.2.2.2 gL_isWitness_X3_witness rfl x1 x2 (by decide +kernel) ⟨by show _ ≤ 8; omega, by show _ ≤ 190; omega⟩) hS (fun _ h => h) rfl rfl rfl hl.1 (Nat.le_of_ble_eq_true rfl) dL_isWitness_171 ⟨Nat.le_of_ble_eq_true rfl, Nat.le_of_ble_eq_true rfl⟩ (fun H1 locs1 hW hF hS1 => ?_)
  clear hS
  have hS := hS1
  clear hS1 hF
  refine mr_top (y := -9) (hz) ?_
  refine lv_bipush (v := -9) hx hb dL_isWitness_174 (by decide) ?_
  refine lv_icmp_ne (tgt := 195) hx hb dL_isWitness_176 (by decide) (fun c176 => absurd rfl c176) (fun c176 => ?_)
  clear c176
  refine lv_aload_n hx hb dL_isWitness_179 rfl (lv_at hl 0 rfl) ?_
  refine lv_iload_n hx hb dL_isWitness_180 rfl (lv_at hl 1 rfl) ?_
  refine lv_iload_n hx hb dL_isWitness_181 rfl (lv_at hl 2 rfl) ?_
  refine lv_iconst (v := nI 1) hx hb dL_isWitness_182 (by decide) ?_
  refine mo_call (x := x) (As := [.int (nI i), .int (nI i'), .int (nI 1)]) (rest := []) (st1 := [.int (-4)]) C0 (op_cycle hi hi' hne hcy) hW (fun rm x1 x2 x3 x4 => cwV 3 C0.1.2.2.2.2 gL_isWitness_X3_edge rfl x1 x2 (by decide +kernel) ⟨by show _ ≤ 8; omega, by show _ ≤ 190; omega⟩) hS (fun _ h => h) rfl rfl rfl hl.1 (Nat.le_of_ble_eq_true rfl) dL_isWitness_183 ⟨Nat.le_of_ble_eq_true rfl, Nat.le_of_ble_eq_true rfl⟩ (fun H1 locs1 hW hF hS1 => ?_)
  clear hS
  have hS := hS1
  clear hS1 hF
  refine lv_bipush (v := -4) hx hb dL_isWitness_186 (by decide) ?_
  refine lv_icmp_ne (tgt := 195) hx hb dL_isWitness_188 (by decide) (fun c188 => absurd rfl c188) (fun c188 => ?_)
  clear c188
  refine lv_iconst (v := nI 1) hx hb dL_isWitness_191 (by decide) ?_
  refine lv_goto (tgt := 196) hx hb dL_isWitness_192 (by decide) ?_
  refine mr_top (y := bI true) (by decide) ?_
  exact mr_zret (b := true) C0 hr hlk hQ hS rfl hW (Nat.le_refl _) (Nat.le_refl _) dL_isWitness_196
set_option maxHeartbeats 4000000 in
set_option maxRecDepth 100000 in
theorem ctL_isWitness {l : Launch} {D : va_G} {T : Nat → ClassId} {x n t : Nat} {w : Nat → Int32} {P Q : Nat → Nat → Int32} {kp : Nat → Bool} {i i' : Nat} (hG : Good w t) (hi : i < 8) (hi' : i' < 8) :
    Ct l yL_isWitness wsL_isWitness { frames := 8, cells := 0, slots := 0, locals := 190 } 0 0 D T (Rg x) [.ref x, .int (nI i), .int (nI i')] (fun H => Wo D T x t (n, w, P, Q, kp) H) (some (.int (bI true))) (fun H => Wo D T x t (n, w, P, Q, kp) H) := by
  refine Ct.ofW (cc := cL_isWitness) (maxL := 6) (ret := (some .boolean)) (by decide) rfl (Nat.le_of_ble_eq_true rfl) ?_
  intro p e s m args below meth c ls R Qq hR hQ C0 hr hlk hname hW hl
  have hS : va_S (Rg x) s.heap s.heap [] := va_S.rf
  have hl : lv_has ls 6 [(0, .ref x), (1, .int (nI i)), (2, .int (nI i'))] := hl
  have hx := C0.1.1
  have hb := C0.1.2.1
  subst hR
  have hA : Acy (mk w 176) := hG.2.2.1.1.2
  have hN8 : ∀ a, a < 8 → mk w 176 a < 256 := fun a ha => (hG.2.2.1.1.1 a ha).2
  by_cases hne : i = i'
  · subst hne
    refine lv_iload_n hx hb dL_isWitness_0 rfl (lv_at hl 1 rfl) ?_
    refine lv_iload_n hx hb dL_isWitness_1 rfl (lv_at hl 2 rfl) ?_
    refine lv_icmp_ne (tgt := 22) hx hb dL_isWitness_2 (by decide) (fun c2 => absurd rfl c2) (fun c2 => ?_)
    clear c2
    refine lv_aload_n hx hb dL_isWitness_5 rfl (lv_at hl 0 rfl) ?_
    refine lv_iload_n hx hb dL_isWitness_6 rfl (lv_at hl 1 rfl) ?_
    refine lv_iload_n hx hb dL_isWitness_7 rfl (lv_at hl 2 rfl) ?_
    refine lv_iconst (v := nI 0) hx hb dL_isWitness_8 (by decide) ?_
    refine mo_call (x := x) (As := [.int (nI i), .int (nI i), .int (nI 0)]) (rest := []) (st1 := [.int (-1)]) C0 (op_witness_b) hW (fun rm x1 x2 x3 x4 => cwV 3 C0.1.2.2.2.2 gL_isWitness_X3_witness rfl x1 x2 (by decide +kernel) ⟨by show _ ≤ 8; omega, by show _ ≤ 190; omega⟩) hS (fun _ h => h) rfl rfl rfl hl.1 (Nat.le_of_ble_eq_true rfl) dL_isWitness_9 ⟨Nat.le_of_ble_eq_true rfl, Nat.le_of_ble_eq_true rfl⟩ (fun H1 locs1 hW hF hS1 => ?_)
    clear hS
    have hS := hS1
    clear hS1 hF
    refine lv_iconst (v := -1) hx hb dL_isWitness_12 (by decide) ?_
    refine lv_icmp_ne (tgt := 20) hx hb dL_isWitness_13 (by decide) (fun c13 => absurd rfl c13) (fun c13 => ?_)
    clear c13
    refine lv_iconst (v := nI 1) hx hb dL_isWitness_16 (by decide) ?_
    refine lv_goto (tgt := 21) hx hb dL_isWitness_17 (by decide) ?_
    refine mr_top (y := bI true) (by decide) ?_
    exact mr_zret (b := true) C0 hr hlk hQ hS rfl hW (Nat.le_refl _) (Nat.le_refl _) dL_isWitness_21
  · by_cases h9 : dsN (mk w 176) i' i = -9
    · have hno := wit_none hA hN8 hi hi' h9
      refine lv_iload_n hx hb dL_isWitness_0 rfl (lv_at hl 1 rfl) ?_
      refine lv_iload_n hx hb dL_isWitness_1 rfl (lv_at hl 2 rfl) ?_
      refine mr_neN (x := i) (y := i') (tgt := 22) C0 dL_isWitness_2 (by decide) (by omega) (by omega) (fun c2 => ?_) (fun c2 => absurd c2 hne)
      clear c2
      refine lv_aload_n hx hb dL_isWitness_22 rfl (lv_at hl 0 rfl) ?_
      refine lv_iload_n hx hb dL_isWitness_23 rfl (lv_at hl 1 rfl) ?_
      refine lv_iload_n hx hb dL_isWitness_24 rfl (lv_at hl 2 rfl) ?_
      refine lv_iconst (v := -1) hx hb dL_isWitness_25 (by decide) ?_
      refine mo_call (x := x) (As := [.int (nI i), .int (nI i'), .int (-1)]) (rest := []) (st1 := [.int (dsN (mk w 176) i' i)]) C0 (op_witness_m hi hi' hne) hW (fun rm x1 x2 x3 x4 => cwV 3 C0.1.2.2.2.2 gL_isWitness_X3_witness rfl x1 x2 (by decide +kernel) ⟨by show _ ≤ 8; omega, by show _ ≤ 190; omega⟩) hS (fun _ h => h) rfl rfl rfl hl.1 (Nat.le_of_ble_eq_true rfl) dL_isWitness_26 ⟨Nat.le_of_ble_eq_true rfl, Nat.le_of_ble_eq_true rfl⟩ (fun H1 locs1 hW hF hS1 => ?_)
      clear hS
      have hS := hS1
      clear hS1 hF
      refine mr_top (y := -9) (h9) ?_
      refine lv_istore_n (lv' := [(3, .int (-9)), (0, .ref x), (1, .int (nI i)), (2, .int (nI i'))]) hx hb dL_isWitness_29 rfl hl (by decide) rfl (fun ls hl => ?_)
      refine lv_aload_n hx hb dL_isWitness_30 rfl (lv_at hl 1 rfl) ?_
      refine lv_iconst (v := -1) hx hb dL_isWitness_31 (by decide) ?_
      refine lv_iload_n hx hb dL_isWitness_32 rfl (lv_at hl 3 rfl) ?_
      refine lv_iload_n hx hb dL_isWitness_33 rfl (lv_at hl 2 rfl) ?_
      refine mo_call (x := x) (As := [.int (-1), .int (nI i'), .int (nI i)]) (rest := []) (st1 := [.int (nI (relN (mk w 176) i' i))]) C0 (op_relation hi' hi (fun z => hne z.symm) (Or.inl ⟨rfl, rfl⟩)) hW (fun rm x1 x2 x3 x4 => cwV 3 C0.1.2.2.2.2 gL_isWitness_X3_relation rfl x1 x2 (by decide +kernel) ⟨by show _ ≤ 8; omega, by show _ ≤ 190; omega⟩) hS (fun _ h => h) rfl rfl rfl hl.1 (Nat.le_of_ble_eq_true rfl) dL_isWitness_34 ⟨Nat.le_of_ble_eq_true rfl, Nat.le_of_ble_eq_true rfl⟩ (fun H1 locs1 hW hF hS1 => ?_)
      clear hS
      have hS := hS1
      clear hS1 hF
      refine lv_istore (lv' := [(4, .int (nI (relN (mk w 176) i' i))), (3, .int (-9)), (0, .ref x), (1, .int (nI i)), (2, .int (nI i'))]) hx hb dL_isWitness_37 hl (by decide) rfl (fun ls hl => ?_)
      refine lv_iload_n hx hb dL_isWitness_39 rfl (lv_at hl 1 rfl) ?_
      refine lv_bipush (v := -9) hx hb dL_isWitness_40 (by decide) ?_
      refine lv_icmp_ne (tgt := 75) hx hb dL_isWitness_42 (by decide) (fun c42 => absurd rfl c42) (fun c42 => ?_)
      clear c42
      refine lv_iload hx hb dL_isWitness_45 (lv_at hl 0 rfl) ?_
      refine lv_iconst (v := nI 1) hx hb dL_isWitness_47 (by decide) ?_
      refine mr_eqN (x := relN (mk w 176) i' i) (y := 1) (tgt := 73) C0 dL_isWitness_48 (by decide) (by have := rel_le (mk w 176) i' i; omega) (by decide) (fun c48 => absurd c48 hno.1) (fun c48 => ?_)
      clear c48
      refine lv_iload hx hb dL_isWitness_51 (lv_at hl 0 rfl) ?_
      refine lv_iconst (v := nI 2) hx hb dL_isWitness_53 (by decide) ?_
      refine mr_eqN (x := relN (mk w 176) i' i) (y := 2) (tgt := 73) C0 dL_isWitness_54 (by decide) (by have := rel_le (mk w 176) i' i; omega) (by decide) (fun c54 => absurd c54 hno.2) (fun c54 => ?_)
      clear c54
      refine lv_aload_n hx hb dL_isWitness_57 rfl (lv_at hl 2 rfl) ?_
      refine lv_iload_n hx hb dL_isWitness_58 rfl (lv_at hl 3 rfl) ?_
      refine lv_iload_n hx hb dL_isWitness_59 rfl (lv_at hl 4 rfl) ?_
      refine lv_iconst (v := nI 0) hx hb dL_isWitness_60 (by decide) ?_
      refine mo_call (x := x) (As := [.int (nI i), .int (nI i'), .int (nI 0)]) (rest := []) (st1 := [.int (fWit (mk w 176) i i' 0)]) C0 (op_witness hi hi' hne (by omega)) hW (fun rm x1 x2 x3 x4 => cwV 3 C0.1.2.2.2.2 gL_isWitness_X3_witness rfl x1 x2 (by decide +kernel) ⟨by show _ ≤ 8; omega, by show _ ≤ 190; omega⟩) hS (fun _ h => h) rfl rfl rfl hl.1 (Nat.le_of_ble_eq_true rfl) dL_isWitness_61 ⟨Nat.le_of_ble_eq_true rfl, Nat.le_of_ble_eq_true rfl⟩ (fun H1 locs1 hW hF hS1 => ?_)
      clear hS
      have hS := hS1
      clear hS1 hF
      refine mr_top (y := -9) (if_pos h9) ?_
      refine lv_bipush (v := -9) hx hb dL_isWitness_64 (by decide) ?_
      refine lv_icmp_ne (tgt := 73) hx hb dL_isWitness_66 (by decide) (fun c66 => absurd rfl c66) (fun c66 => ?_)
      clear c66
      refine lv_iconst (v := nI 1) hx hb dL_isWitness_69 (by decide) ?_
      refine lv_goto (tgt := 74) hx hb dL_isWitness_70 (by decide) ?_
      refine mr_top (y := bI true) (by decide) ?_
      exact mr_zret (b := true) C0 hr hlk hQ hS rfl hW (Nat.le_refl _) (Nat.le_refl _) dL_isWitness_74
    · obtain ⟨nn, hpos, h8, hd, hcy, hr1, hw, h0, hn, hz, he⟩ := wit_walk hA hN8 hi hi' hne h9
      refine lv_iload_n hx hb dL_isWitness_0 rfl (lv_at hl 1 rfl) ?_
      refine lv_iload_n hx hb dL_isWitness_1 rfl (lv_at hl 2 rfl) ?_
      refine mr_neN (x := i) (y := i') (tgt := 22) C0 dL_isWitness_2 (by decide) (by omega) (by omega) (fun c2 => ?_) (fun c2 => absurd c2 hne)
      clear c2
      refine lv_aload_n hx hb dL_isWitness_22 rfl (lv_at hl 0 rfl) ?_
      refine lv_iload_n hx hb dL_isWitness_23 rfl (lv_at hl 1 rfl) ?_
      refine lv_iload_n hx hb dL_isWitness_24 rfl (lv_at hl 2 rfl) ?_
      refine lv_iconst (v := -1) hx hb dL_isWitness_25 (by decide) ?_
      refine mo_call (x := x) (As := [.int (nI i), .int (nI i'), .int (-1)]) (rest := []) (st1 := [.int (dsN (mk w 176) i' i)]) C0 (op_witness_m hi hi' hne) hW (fun rm x1 x2 x3 x4 => cwV 3 C0.1.2.2.2.2 gL_isWitness_X3_witness rfl x1 x2 (by decide +kernel) ⟨by show _ ≤ 8; omega, by show _ ≤ 190; omega⟩) hS (fun _ h => h) rfl rfl rfl hl.1 (Nat.le_of_ble_eq_true rfl) dL_isWitness_26 ⟨Nat.le_of_ble_eq_true rfl, Nat.le_of_ble_eq_true rfl⟩ (fun H1 locs1 hW hF hS1 => ?_)
      clear hS
      have hS := hS1
      clear hS1 hF
      refine mr_top (y := nI nn) (hd) ?_
      refine lv_istore_n (lv' := [(3, .int (nI nn)), (0, .ref x), (1, .int (nI i)), (2, .int (nI i'))]) hx hb dL_isWitness_29 rfl hl (by decide) rfl (fun ls hl => ?_)
      refine lv_aload_n hx hb dL_isWitness_30 rfl (lv_at hl 1 rfl) ?_
      refine lv_iconst (v := -1) hx hb dL_isWitness_31 (by decide) ?_
      refine lv_iload_n hx hb dL_isWitness_32 rfl (lv_at hl 3 rfl) ?_
      refine lv_iload_n hx hb dL_isWitness_33 rfl (lv_at hl 2 rfl) ?_
      refine mo_call (x := x) (As := [.int (-1), .int (nI i'), .int (nI i)]) (rest := []) (st1 := [.int (nI (relN (mk w 176) i' i))]) C0 (op_relation hi' hi (fun z => hne z.symm) (Or.inl ⟨rfl, rfl⟩)) hW (fun rm x1 x2 x3 x4 => cwV 3 C0.1.2.2.2.2 gL_isWitness_X3_relation rfl x1 x2 (by decide +kernel) ⟨by show _ ≤ 8; omega, by show _ ≤ 190; omega⟩) hS (fun _ h => h) rfl rfl rfl hl.1 (Nat.le_of_ble_eq_true rfl) dL_isWitness_34 ⟨Nat.le_of_ble_eq_true rfl, Nat.le_of_ble_eq_true rfl⟩ (fun H1 locs1 hW hF hS1 => ?_)
      clear hS
      have hS := hS1
      clear hS1 hF
      refine lv_istore (lv' := [(4, .int (nI (relN (mk w 176) i' i))), (3, .int (nI nn)), (0, .ref x), (1, .int (nI i)), (2, .int (nI i'))]) hx hb dL_isWitness_37 hl (by decide) rfl (fun ls hl => ?_)
      refine lv_iload_n hx hb dL_isWitness_39 rfl (lv_at hl 1 rfl) ?_
      refine lv_bipush (v := -9) hx hb dL_isWitness_40 (by decide) ?_
      refine lv_icmp_ne (tgt := 75) hx hb dL_isWitness_42 (by decide) (fun c42 => ?_) (fun c42 => absurd c42 (nI_n9 _ h8))
      clear c42
      refine lv_iconst (v := nI 0) hx hb dL_isWitness_75 (by decide) ?_
      refine lv_istore (lv' := [(5, .int (nI 0)), (4, .int (nI (relN (mk w 176) i' i))), (3, .int (nI nn)), (0, .ref x), (1, .int (nI i)), (2, .int (nI i'))]) hx hb dL_isWitness_76 hl (by decide) rfl (fun ls hl => ?_)
      refine iw_loop C0 rfl hi hi' hne h8 hw he (fun H1 locs1 ls1 hW1 hS1 hl1 => ?_) nn 0 _ _ _ (Nat.zero_add _) hW hS (lv_sub hl [3, 4, 5, 2, 1, 0] rfl)
      by_cases h1 : nn = 1
      · exact iw_end1 C0 rfl hi hi' hne h8 hw h0 hn hz hcy hr1 h1 hr hlk hQ hW1 hS1 hl1
      · exact iw_end2 C0 rfl hi hi' hne h8 hw h0 hn hz hcy hr1 h1 hr hlk hQ hW1 hS1 hl1
