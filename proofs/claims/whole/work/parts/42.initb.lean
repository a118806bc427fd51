/-! part 42: the reference's constructor once more: what stood before stays -/
set_option maxHeartbeats 4000000 in
set_option maxRecDepth 100000 in
theorem ctX4_initB {l : Launch} {D : va_G} {T : Nat → ClassId} {A : Nat → Prop} {B : Nat} {Sh : hm_S} {I : hm_I} {J : hm_J} {b : Nat} (hB : B ≤ b) (hA : ∀ q, B ≤ q → A q) (hs : Sh b = kO 4 [some none, some none, none, some none, none, some none, some none, some none, some none, some none]) (hI : ∀ k, I b k = 0) :
    Ct l yX4_init wsX4_init { frames := 1, cells := 8, slots := 5416, locals := 12 } (8) (5416) D T A [.ref b] (fun H => hm D T (rg B (b + 1)) A Sh I J H ∧ H.size = b + 1) none (fun H => ∃ (Sh1 : hm_S) (I1 : hm_I) (J1 : hm_J), (hm D T (rg B (b + 9)) A Sh1 I1 J1 H ∧ H.size = b + 9) ∧ (Sh1 b = kO 4 [some (some (b + 1)), some (some (b + 2)), none, some (some (b + 3)), none, some (some (b + 4)), some (some (b + 5)), some (some (b + 6)), some (some (b + 7)), some (some (b + 8))] ∧ Sh1 (b + 1) = kI 428 ∧ Sh1 (b + 2) = kI 3424 ∧ Sh1 (b + 3) = kI 856 ∧ Sh1 (b + 4) = kI 8 ∧ Sh1 (b + 5) = kI 428 ∧ Sh1 (b + 6) = kI 8 ∧ Sh1 (b + 7) = kI 8 ∧ Sh1 (b + 8) = kJ 256) ∧ (∀ k, I1 b k = 0) ∧ (∀ k, I1 (b + 1) k = 0) ∧ smB Sh1 Sh I1 I b) := by
  refine Ct.ofW (cc := cX4_init) (maxL := 1) (ret := none) (by decide) rfl (Nat.le_of_ble_eq_true rfl) ?_
  intro p_ e_ s_ m_ args_ below_ meth_ c_ ls R Qq hR hQ0 C0 hr hlk hname hP hl
  obtain ⟨hM, hz⟩ := hP
  have hz0 := hz
  have hx := C0.1.1
  have hb := C0.1.2.1
  have hS : va_S A s_.heap s_.heap [] := va_S.rf
  have hl : lv_has ls 1 [(0, .ref b)] := hl
  refine lv_aload_n hx hb dX4_init_0 rfl (lv_at hl 0 rfl) ?_
  refine W.objInit hx hb C0.1.2.2.2.1 (C0.1.2.2.2.2 _ (List.mem_of_getElem? (i := 1) rfl)) (C0.1.2.2.2.2 _ (List.mem_of_getElem? (i := 2) rfl)) (C0.1.2.2.2.2 _ (List.mem_of_getElem? (i := 3) rfl)) rfl (hl.1.trans C0.1.2.2.1.symm) rfl dX4_init_1 (by rw [hR]; exact Nat.le_of_ble_eq_true rfl) (by rw [hR]; exact Nat.le_of_ble_eq_true rfl) ?_
  refine W.eq (g2 := F0 m_ 4 ls []) rfl ?_
  refine lv_aload_n hx hb dX4_init_4 rfl (lv_at hl 0 rfl) ?_
  refine lv_sipush (v := nI 428) hx hb dX4_init_5 (by decide) ?_
  refine mz_newI (n := 428) C0 (List.mem_of_getElem? (i := 4) rfl) hM hz (by omega) hS hA (by omega) (by rw [hR]; show _ ≤ 8; omega) (by rw [hR]; show _ ≤ 5416; omega) dX4_init_8 (fun H hM1 hS1 hz1 => ?_)
  clear hM hS hz
  have hM := hM1
  have hS := hS1
  clear hM1 hS1
  have hz := hz1
  clear hz1
  have hM1 := hM
  clear hM
  obtain ⟨mS1, emS1⟩ : ∃ f : hm_S, f = va_up Sh (b + 1) (kI 428) := ⟨_, rfl⟩
  have hbmS1 : mS1 (b) = kO 4 [some none, some none, none, some none, none, some none, some none, some none, some none, some none] := by rw [emS1]; simp (disch := omega) only [va_up_self, va_up_ne, hs]
  obtain ⟨mI1, emI1⟩ : ∃ f : hm_I, f = va_up I (b + 1) (fun _ => 0) := ⟨_, rfl⟩
  have hM : hm D T (rg B (b + 2)) A mS1 mI1 J H := by rw [emS1, emI1]; exact hM1
  clear hM1
  have hz1 := hz
  clear hz
  have hz : H.size = b + 2 := hz1
  clear hz1
  refine mr_putF (TT := TX4) (N := 10) (ci := 4) C0 uX4_init_X4 tyX4 tyX4_ok nmX4 hM hS (rg_in (by omega) (by omega)) (fs := [some none, some none, none, some none, none, some none, some none, some none, some none, some none]) hbmS1 rfl 0 (by decide) (v0 := none) rfl (v := b + 1) (List.mem_of_getElem? (i := 5) rfl) rfl rfl rfl hname (ty := .array .int) (by decide +kernel) rfl rfl dX4_init_10 (fun H locs hM1 hS1 => ?_)
  clear hM hS hz
  have hM := hM1
  have hS := hS1
  clear hM1 hS1
  have hz := hz0
  have hM1 := hM
  clear hM
  obtain ⟨mS2, emS2⟩ : ∃ f : hm_S, f = va_up mS1 (b) (kO 4 [some (some (b + 1)), some none, none, some none, none, some none, some none, some none, some none, some none]) := ⟨_, rfl⟩
  have hbmS2 : mS2 (b) = kO 4 [some (some (b + 1)), some none, none, some none, none, some none, some none, some none, some none, some none] := by rw [emS2]; simp (disch := omega) only [va_up_self, va_up_ne, hbmS1]
  have hM : hm D T (rg B (b + 2)) A mS2 mI1 J H := by rw [emS2]; exact hM1
  clear hM1
  refine mz_sz fun hsz => ?_
  clear hz
  have hz : H.size = b + 2 := mz_size hM (by omega) (by omega) hsz
  clear hsz
  refine lv_aload_n hx hb dX4_init_13 rfl (lv_at hl 0 rfl) ?_
  refine lv_sipush (v := nI 3424) hx hb dX4_init_14 (by decide) ?_
  refine mz_newI (n := 3424) C0 (List.mem_of_getElem? (i := 4) rfl) hM hz (by omega) hS hA (by omega) (by rw [hR]; show _ ≤ 8; omega) (by rw [hR]; show _ ≤ 5416; omega) dX4_init_17 (fun H hM1 hS1 hz1 => ?_)
  clear hM hS hz
  have hM := hM1
  have hS := hS1
  clear hM1 hS1
  have hz := hz1
  clear hz1
  have hM1 := hM
  clear hM
  obtain ⟨mS3, emS3⟩ : ∃ f : hm_S, f = va_up mS2 (b + 2) (kI 3424) := ⟨_, rfl⟩
  have hbmS3 : mS3 (b) = kO 4 [some (some (b + 1)), some none, none, some none, none, some none, some none, some none, some none, some none] := by rw [emS3]; simp (disch := omega) only [va_up_self, va_up_ne, hbmS2]
  obtain ⟨mI3, emI3⟩ : ∃ f : hm_I, f = va_up mI1 (b + 2) (fun _ => 0) := ⟨_, rfl⟩
  have hM : hm D T (rg B (b + 3)) A mS3 mI3 J H := by rw [emS3, emI3]; exact hM1
  clear hM1
  have hz1 := hz
  clear hz
  have hz : H.size = b + 3 := hz1
  clear hz1
  refine mr_putF (TT := TX4) (N := 10) (ci := 4) C0 uX4_init_X4 tyX4 tyX4_ok nmX4 hM hS (rg_in (by omega) (by omega)) (fs := [some (some (b + 1)), some none, none, some none, none, some none, some none, some none, some none, some none]) hbmS3 rfl 1 (by decide) (v0 := none) rfl (v := b + 2) (List.mem_of_getElem? (i := 6) rfl) rfl rfl rfl hname (ty := .array .int) (by decide +kernel) rfl rfl dX4_init_19 (fun H locs hM1 hS1 => ?_)
  clear hM hS hz
  have hM := hM1
  have hS := hS1
  clear hM1 hS1
  have hz := hz0
  have hM1 := hM
  clear hM
  obtain ⟨mS4, emS4⟩ : ∃ f : hm_S, f = va_up mS3 (b) (kO 4 [some (some (b + 1)), some (some (b + 2)), none, some none, none, some none, some none, some none, some none, some none]) := ⟨_, rfl⟩
  have hbmS4 : mS4 (b) = kO 4 [some (some (b + 1)), some (some (b + 2)), none, some none, none, some none, some none, some none, some none, some none] := by rw [emS4]; simp (disch := omega) only [va_up_self, va_up_ne, hbmS3]
  have hM : hm D T (rg B (b + 3)) A mS4 mI3 J H := by rw [emS4]; exact hM1
  clear hM1
  refine mz_sz fun hsz => ?_
  clear hz
  have hz : H.size = b + 3 := mz_size hM (by omega) (by omega) hsz
  clear hsz
  refine lv_aload_n hx hb dX4_init_22 rfl (lv_at hl 0 rfl) ?_
  refine lv_sipush (v := nI 856) hx hb dX4_init_23 (by decide) ?_
  refine mz_newI (n := 856) C0 (List.mem_of_getElem? (i := 4) rfl) hM hz (by omega) hS hA (by omega) (by rw [hR]; show _ ≤ 8; omega) (by rw [hR]; show _ ≤ 5416; omega) dX4_init_26 (fun H hM1 hS1 hz1 => ?_)
  clear hM hS hz
  have hM := hM1
  have hS := hS1
  clear hM1 hS1
  have hz := hz1
  clear hz1
  have hM1 := hM
  clear hM
  obtain ⟨mS5, emS5⟩ : ∃ f : hm_S, f = va_up mS4 (b + 3) (kI 856) := ⟨_, rfl⟩
  have hbmS5 : mS5 (b) = kO 4 [some (some (b + 1)), some (some (b + 2)), none, some none, none, some none, some none, some none, some none, some none] := by rw [emS5]; simp (disch := omega) only [va_up_self, va_up_ne, hbmS4]
  obtain ⟨mI5, emI5⟩ : ∃ f : hm_I, f = va_up mI3 (b + 3) (fun _ => 0) := ⟨_, rfl⟩
  have hM : hm D T (rg B (b + 4)) A mS5 mI5 J H := by rw [emS5, emI5]; exact hM1
  clear hM1
  have hz1 := hz
  clear hz
  have hz : H.size = b + 4 := hz1
  clear hz1
  refine mr_putF (TT := TX4) (N := 10) (ci := 4) C0 uX4_init_X4 tyX4 tyX4_ok nmX4 hM hS (rg_in (by omega) (by omega)) (fs := [some (some (b + 1)), some (some (b + 2)), none, some none, none, some none, some none, some none, some none, some none]) hbmS5 rfl 3 (by decide) (v0 := none) rfl (v := b + 3) (List.mem_of_getElem? (i := 7) rfl) rfl rfl rfl hname (ty := .array .int) (by decide +kernel) rfl rfl dX4_init_28 (fun H locs hM1 hS1 => ?_)
  clear hM hS hz
  have hM := hM1
  have hS := hS1
  clear hM1 hS1
  have hz := hz0
  have hM1 := hM
  clear hM
  obtain ⟨mS6, emS6⟩ : ∃ f : hm_S, f = va_up mS5 (b) (kO 4 [some (some (b + 1)), some (some (b + 2)), none, some (some (b + 3)), none, some none, some none, some none, some none, some none]) := ⟨_, rfl⟩
  have hbmS6 : mS6 (b) = kO 4 [some (some (b + 1)), some (some (b + 2)), none, some (some (b + 3)), none, some none, some none, some none, some none, some none] := by rw [emS6]; simp (disch := omega) only [va_up_self, va_up_ne, hbmS5]
  have hM : hm D T (rg B (b + 4)) A mS6 mI5 J H := by rw [emS6]; exact hM1
  clear hM1
  refine mz_sz fun hsz => ?_
  clear hz
  have hz : H.size = b + 4 := mz_size hM (by omega) (by omega) hsz
  clear hsz
  refine lv_aload_n hx hb dX4_init_31 rfl (lv_at hl 0 rfl) ?_
  refine lv_bipush (v := nI 8) hx hb dX4_init_32 (by decide) ?_
  refine mz_newI (n := 8) C0 (List.mem_of_getElem? (i := 4) rfl) hM hz (by omega) hS hA (by omega) (by rw [hR]; show _ ≤ 8; omega) (by rw [hR]; show _ ≤ 5416; omega) dX4_init_34 (fun H hM1 hS1 hz1 => ?_)
  clear hM hS hz
  have hM := hM1
  have hS := hS1
  clear hM1 hS1
  have hz := hz1
  clear hz1
  have hM1 := hM
  clear hM
  obtain ⟨mS7, emS7⟩ : ∃ f : hm_S, f = va_up mS6 (b + 4) (kI 8) := ⟨_, rfl⟩
  have hbmS7 : mS7 (b) = kO 4 [some (some (b + 1)), some (some (b + 2)), none, some (some (b + 3)), none, some none, some none, some none, some none, some none] := by rw [emS7]; simp (disch := omega) only [va_up_self, va_up_ne, hbmS6]
  obtain ⟨mI7, emI7⟩ : ∃ f : hm_I, f = va_up mI5 (b + 4) (fun _ => 0) := ⟨_, rfl⟩
  have hM : hm D T (rg B (b + 5)) A mS7 mI7 J H := by rw [emS7, emI7]; exact hM1
  clear hM1
  have hz1 := hz
  clear hz
  have hz : H.size = b + 5 := hz1
  clear hz1
  refine mr_putF (TT := TX4) (N := 10) (ci := 4) C0 uX4_init_X4 tyX4 tyX4_ok nmX4 hM hS (rg_in (by omega) (by omega)) (fs := [some (some (b + 1)), some (some (b + 2)), none, some (some (b + 3)), none, some none, some none, some none, some none, some none]) hbmS7 rfl 5 (by decide) (v0 := none) rfl (v := b + 4) (List.mem_of_getElem? (i := 8) rfl) rfl rfl rfl hname (ty := .array .int) (by decide +kernel) rfl rfl dX4_init_36 (fun H locs hM1 hS1 => ?_)
  clear hM hS hz
  have hM := hM1
  have hS := hS1
  clear hM1 hS1
  have hz := hz0
  have hM1 := hM
  clear hM
  obtain ⟨mS8, emS8⟩ : ∃ f : hm_S, f = va_up mS7 (b) (kO 4 [some (some (b + 1)), some (some (b + 2)), none, some (some (b + 3)), none, some (some (b + 4)), some none, some none, some none, some none]) := ⟨_, rfl⟩
  have hbmS8 : mS8 (b) = kO 4 [some (some (b + 1)), some (some (b + 2)), none, some (some (b + 3)), none, some (some (b + 4)), some none, some none, some none, some none] := by rw [emS8]; simp (disch := omega) only [va_up_self, va_up_ne, hbmS7]
  have hM : hm D T (rg B (b + 5)) A mS8 mI7 J H := by rw [emS8]; exact hM1
  clear hM1
  refine mz_sz fun hsz => ?_
  clear hz
  have hz : H.size = b + 5 := mz_size hM (by omega) (by omega) hsz
  clear hsz
  refine lv_aload_n hx hb dX4_init_39 rfl (lv_at hl 0 rfl) ?_
  refine lv_sipush (v := nI 428) hx hb dX4_init_40 (by decide) ?_
  refine mz_newI (n := 428) C0 (List.mem_of_getElem? (i := 4) rfl) hM hz (by omega) hS hA (by omega) (by rw [hR]; show _ ≤ 8; omega) (by rw [hR]; show _ ≤ 5416; omega) dX4_init_43 (fun H hM1 hS1 hz1 => ?_)
  clear hM hS hz
  have hM := hM1
  have hS := hS1
  clear hM1 hS1
  have hz := hz1
  clear hz1
  have hM1 := hM
  clear hM
  obtain ⟨mS9, emS9⟩ : ∃ f : hm_S, f = va_up mS8 (b + 5) (kI 428) := ⟨_, rfl⟩
  have hbmS9 : mS9 (b) = kO 4 [some (some (b + 1)), some (some (b + 2)), none, some (some (b + 3)), none, some (some (b + 4)), some none, some none, some none, some none] := by rw [emS9]; simp (disch := omega) only [va_up_self, va_up_ne, hbmS8]
  obtain ⟨mI9, emI9⟩ : ∃ f : hm_I, f = va_up mI7 (b + 5) (fun _ => 0) := ⟨_, rfl⟩
  have hM : hm D T (rg B (b + 6)) A mS9 mI9 J H := by rw [emS9, emI9]; exact hM1
  clear hM1
  have hz1 := hz
  clear hz
  have hz : H.size = b + 6 := hz1
  clear hz1
  refine mr_putF (TT := TX4) (N := 10) (ci := 4) C0 uX4_init_X4 tyX4 tyX4_ok nmX4 hM hS (rg_in (by omega) (by omega)) (fs := [some (some (b + 1)), some (some (b + 2)), none, some (some (b + 3)), none, some (some (b + 4)), some none, some none, some none, some none]) hbmS9 rfl 6 (by decide) (v0 := none) rfl (v := b + 5) (List.mem_of_getElem? (i := 9) rfl) rfl rfl rfl hname (ty := .array .int) (by decide +kernel) rfl rfl dX4_init_45 (fun H locs hM1 hS1 => ?_)
  clear hM hS hz
  have hM := hM1
  have hS := hS1
  clear hM1 hS1
  have hz := hz0
  have hM1 := hM
  clear hM
  obtain ⟨mS10, emS10⟩ : ∃ f : hm_S, f = va_up mS9 (b) (kO 4 [some (some (b + 1)), some (some (b + 2)), none, some (some (b + 3)), none, some (some (b + 4)), some (some (b + 5)), some none, some none, some none]) := ⟨_, rfl⟩
  have hbmS10 : mS10 (b) = kO 4 [some (some (b + 1)), some (some (b + 2)), none, some (some (b + 3)), none, some (some (b + 4)), some (some (b + 5)), some none, some none, some none] := by rw [emS10]; simp (disch := omega) only [va_up_self, va_up_ne, hbmS9]
  have hM : hm D T (rg B (b + 6)) A mS10 mI9 J H := by rw [emS10]; exact hM1
  clear hM1
  refine mz_sz fun hsz => ?_
  clear hz
  have hz : H.size = b + 6 := mz_size hM (by omega) (by omega) hsz
  clear hsz
  refine lv_aload_n hx hb dX4_init_48 rfl (lv_at hl 0 rfl) ?_
  refine lv_bipush (v := nI 8) hx hb dX4_init_49 (by decide) ?_
  refine mz_newI (n := 8) C0 (List.mem_of_getElem? (i := 4) rfl) hM hz (by omega) hS hA (by omega) (by rw [hR]; show _ ≤ 8; omega) (by rw [hR]; show _ ≤ 5416; omega) dX4_init_51 (fun H hM1 hS1 hz1 => ?_)
  clear hM hS hz
  have hM := hM1
  have hS := hS1
  clear hM1 hS1
  have hz := hz1
  clear hz1
  have hM1 := hM
  clear hM
  obtain ⟨mS11, emS11⟩ : ∃ f : hm_S, f = va_up mS10 (b + 6) (kI 8) := ⟨_, rfl⟩
  have hbmS11 : mS11 (b) = kO 4 [some (some (b + 1)), some (some (b + 2)), none, some (some (b + 3)), none, some (some (b + 4)), some (some (b + 5)), some none, some none, some none] := by rw [emS11]; simp (disch := omega) only [va_up_self, va_up_ne, hbmS10]
  obtain ⟨mI11, emI11⟩ : ∃ f : hm_I, f = va_up mI9 (b + 6) (fun _ => 0) := ⟨_, rfl⟩
  have hM : hm D T (rg B (b + 7)) A mS11 mI11 J H := by rw [emS11, emI11]; exact hM1
  clear hM1
  have hz1 := hz
  clear hz
  have hz : H.size = b + 7 := hz1
  clear hz1
  refine mr_putF (TT := TX4) (N := 10) (ci := 4) C0 uX4_init_X4 tyX4 tyX4_ok nmX4 hM hS (rg_in (by omega) (by omega)) (fs := [some (some (b + 1)), some (some (b + 2)), none, some (some (b + 3)), none, some (some (b + 4)), some (some (b + 5)), some none, some none, some none]) hbmS11 rfl 7 (by decide) (v0 := none) rfl (v := b + 6) (List.mem_of_getElem? (i := 10) rfl) rfl rfl rfl hname (ty := .array .int) (by decide +kernel) rfl rfl dX4_init_53 (fun H locs hM1 hS1 => ?_)
  clear hM hS hz
  have hM := hM1
  have hS := hS1
  clear hM1 hS1
  have hz := hz0
  have hM1 := hM
  clear hM
  obtain ⟨mS12, emS12⟩ : ∃ f : hm_S, f = va_up mS11 (b) (kO 4 [some (some (b + 1)), some (some (b + 2)), none, some (some (b + 3)), none, some (some (b + 4)), some (some (b + 5)), some (some (b + 6)), some none, some none]) := ⟨_, rfl⟩
  have hbmS12 : mS12 (b) = kO 4 [some (some (b + 1)), some (some (b + 2)), none, some (some (b + 3)), none, some (some (b + 4)), some (some (b + 5)), some (some (b + 6)), some none, some none] := by rw [emS12]; simp (disch := omega) only [va_up_self, va_up_ne, hbmS11]
  have hM : hm D T (rg B (b + 7)) A mS12 mI11 J H := by rw [emS12]; exact hM1
  clear hM1
  refine mz_sz fun hsz => ?_
  clear hz
  have hz : H.size = b + 7 := mz_size hM (by omega) (by omega) hsz
  clear hsz
  refine lv_aload_n hx hb dX4_init_56 rfl (lv_at hl 0 rfl) ?_
  refine lv_bipush (v := nI 8) hx hb dX4_init_57 (by decide) ?_
  refine mz_newI (n := 8) C0 (List.mem_of_getElem? (i := 4) rfl) hM hz (by omega) hS hA (by omega) (by rw [hR]; show _ ≤ 8; omega) (by rw [hR]; show _ ≤ 5416; omega) dX4_init_59 (fun H hM1 hS1 hz1 => ?_)
  clear hM hS hz
  have hM := hM1
  have hS := hS1
  clear hM1 hS1
  have hz := hz1
  clear hz1
  have hM1 := hM
  clear hM
  obtain ⟨mS13, emS13⟩ : ∃ f : hm_S, f = va_up mS12 (b + 7) (kI 8) := ⟨_, rfl⟩
  have hbmS13 : mS13 (b) = kO 4 [some (some (b + 1)), some (some (b + 2)), none, some (some (b + 3)), none, some (some (b + 4)), some (some (b + 5)), some (some (b + 6)), some none, some none] := by rw [emS13]; simp (disch := omega) only [va_up_self, va_up_ne, hbmS12]
  obtain ⟨mI13, emI13⟩ : ∃ f : hm_I, f = va_up mI11 (b + 7) (fun _ => 0) := ⟨_, rfl⟩
  have hM : hm D T (rg B (b + 8)) A mS13 mI13 J H := by rw [emS13, emI13]; exact hM1
  clear hM1
  have hz1 := hz
  clear hz
  have hz : H.size = b + 8 := hz1
  clear hz1
  refine mr_putF (TT := TX4) (N := 10) (ci := 4) C0 uX4_init_X4 tyX4 tyX4_ok nmX4 hM hS (rg_in (by omega) (by omega)) (fs := [some (some (b + 1)), some (some (b + 2)), none, some (some (b + 3)), none, some (some (b + 4)), some (some (b + 5)), some (some (b + 6)), some none, some none]) hbmS13 rfl 8 (by decide) (v0 := none) rfl (v := b + 7) (List.mem_of_getElem? (i := 11) rfl) rfl rfl rfl hname (ty := .array .int) (by decide +kernel) rfl rfl dX4_init_61 (fun H locs hM1 hS1 => ?_)
  clear hM hS hz
  have hM := hM1
  have hS := hS1
  clear hM1 hS1
  have hz := hz0
  have hM1 := hM
  clear hM
  obtain ⟨mS14, emS14⟩ : ∃ f : hm_S, f = va_up mS13 (b) (kO 4 [some (some (b + 1)), some (some (b + 2)), none, some (some (b + 3)), none, some (some (b + 4)), some (some (b + 5)), some (some (b + 6)), some (some (b + 7)), some none]) := ⟨_, rfl⟩
  have hbmS14 : mS14 (b) = kO 4 [some (some (b + 1)), some (some (b + 2)), none, some (some (b + 3)), none, some (some (b + 4)), some (some (b + 5)), some (some (b + 6)), some (some (b + 7)), some none] := by rw [emS14]; simp (disch := omega) only [va_up_self, va_up_ne, hbmS13]
  have hM : hm D T (rg B (b + 8)) A mS14 mI13 J H := by rw [emS14]; exact hM1
  clear hM1
  refine mz_sz fun hsz => ?_
  clear hz
  have hz : H.size = b + 8 := mz_size hM (by omega) (by omega) hsz
  clear hsz
  refine lv_aload_n hx hb dX4_init_64 rfl (lv_at hl 0 rfl) ?_
  refine lv_sipush (v := nI 256) hx hb dX4_init_65 (by decide) ?_
  refine mz_newJ (n := 256) C0 (List.mem_of_getElem? (i := 12) rfl) hM hz (by omega) hS hA (by omega) (by rw [hR]; show _ ≤ 8; omega) (by rw [hR]; show _ ≤ 5416; omega) dX4_init_68 (fun H hM1 hS1 hz1 => ?_)
  clear hM hS hz
  have hM := hM1
  have hS := hS1
  clear hM1 hS1
  have hz := hz1
  clear hz1
  have hM1 := hM
  clear hM
  obtain ⟨mS15, emS15⟩ : ∃ f : hm_S, f = va_up mS14 (b + 8) (kJ 256) := ⟨_, rfl⟩
  have hbmS15 : mS15 (b) = kO 4 [some (some (b + 1)), some (some (b + 2)), none, some (some (b + 3)), none, some (some (b + 4)), some (some (b + 5)), some (some (b + 6)), some (some (b + 7)), some none] := by rw [emS15]; simp (disch := omega) only [va_up_self, va_up_ne, hbmS14]
  obtain ⟨mJ15, emJ15⟩ : ∃ f : hm_J, f = va_up J (b + 8) (fun _ => 0) := ⟨_, rfl⟩
  have hM : hm D T (rg B (b + 9)) A mS15 mI13 mJ15 H := by rw [emS15, emJ15]; exact hM1
  clear hM1
  have hz1 := hz
  clear hz
  have hz : H.size = b + 9 := hz1
  clear hz1
  refine mr_putF (TT := TX4) (N := 10) (ci := 4) C0 uX4_init_X4 tyX4 tyX4_ok nmX4 hM hS (rg_in (by omega) (by omega)) (fs := [some (some (b + 1)), some (some (b + 2)), none, some (some (b + 3)), none, some (some (b + 4)), some (some (b + 5)), some (some (b + 6)), some (some (b + 7)), some none]) hbmS15 rfl 9 (by decide) (v0 := none) rfl (v := b + 8) (List.mem_of_getElem? (i := 13) rfl) rfl rfl rfl hname (ty := .array .long) (by decide +kernel) rfl rfl dX4_init_70 (fun H locs hM1 hS1 => ?_)
  clear hM hS hz
  have hM := hM1
  have hS := hS1
  clear hM1 hS1
  have hz := hz0
  have hM1 := hM
  clear hM
  obtain ⟨mS16, emS16⟩ : ∃ f : hm_S, f = va_up mS15 (b) (kO 4 [some (some (b + 1)), some (some (b + 2)), none, some (some (b + 3)), none, some (some (b + 4)), some (some (b + 5)), some (some (b + 6)), some (some (b + 7)), some (some (b + 8))]) := ⟨_, rfl⟩
  have hbmS16 : mS16 (b) = kO 4 [some (some (b + 1)), some (some (b + 2)), none, some (some (b + 3)), none, some (some (b + 4)), some (some (b + 5)), some (some (b + 6)), some (some (b + 7)), some (some (b + 8))] := by rw [emS16]; simp (disch := omega) only [va_up_self, va_up_ne, hbmS15]
  have hM : hm D T (rg B (b + 9)) A mS16 mI13 mJ15 H := by rw [emS16]; exact hM1
  clear hM1
  refine mz_sz fun hsz => ?_
  clear hz
  have hz : H.size = b + 9 := mz_size hM (by omega) (by omega) hsz
  clear hsz
  refine lv_aload_n hx hb dX4_init_73 rfl (lv_at hl 0 rfl) ?_
  refine mr_getr (r := b + 1) (TT := TX4) (N := 10) (ci := 4) C0 uX4_init_X4 hM (rg_in (by omega) (by omega)) (fs := [some (some (b + 1)), some (some (b + 2)), none, some (some (b + 3)), none, some (some (b + 4)), some (some (b + 5)), some (some (b + 6)), some (some (b + 7)), some (some (b + 8))]) hbmS16 rfl 0 (by decide) rfl (List.mem_of_getElem? (i := 5) rfl) rfl dX4_init_74 ?_
  refine lv_sipush (v := nI 184) hx hb dX4_init_77 (by decide) ?_
  refine lv_iconst (v := 0) hx hb dX4_init_80 (by decide) ?_
  have h184 : mS16 (b + 1) = kI 428 := by simp (disch := omega) only [va_up_self, va_up_ne, emS16, emS15, emS14, emS13, emS12, emS11, emS10, emS9, emS8, emS7, emS6, emS5, emS4, emS3, emS2, emS1]
  refine mr_iastN (n := 428) (j := 184) C0 hM hS (rg_in (by omega) (by omega)) h184 (by omega) (by omega) dX4_init_81 (fun H locs hM1 hS1 => ?_)
  clear hM hS hz
  have hM := hM1
  have hS := hS1
  clear hM1 hS1
  have hz := hz0
  have hM1 := hM
  clear hM
  obtain ⟨mI17, emI17⟩ : ∃ f : hm_I, f = hm_put mI13 (b + 1) 184 0 := ⟨_, rfl⟩
  have hM : hm D T (rg B (b + 9)) A mS16 mI17 mJ15 H := by rw [emI17]; exact hM1
  clear hM1
  refine mz_sz fun hsz => ?_
  clear hz
  have hz : H.size = b + 9 := mz_size hM (by omega) (by omega) hsz
  clear hsz
  refine mz_cs (c2 := 8) (s2 := 5416) (by omega) (by omega) ?_
  refine mr_vret C0 hr hlk hQ0 hS rfl ⟨_, _, _, ⟨hM, hz⟩, ⟨?_, ?_, ?_, ?_, ?_, ?_, ?_, ?_, ?_⟩, fun k => ?_, fun k => ?_, fun u hu => ⟨?_, ?_⟩⟩ (Nat.le_refl _) (Nat.le_refl _) dX4_init_82
  · simp (disch := omega) only [va_up_self, va_up_ne, emS16, emS15, emS14, emS13, emS12, emS11, emS10, emS9, emS8, emS7, emS6, emS5, emS4, emS3, emS2, emS1]
  · simp (disch := omega) only [va_up_self, va_up_ne, emS16, emS15, emS14, emS13, emS12, emS11, emS10, emS9, emS8, emS7, emS6, emS5, emS4, emS3, emS2, emS1]
  · simp (disch := omega) only [va_up_self, va_up_ne, emS16, emS15, emS14, emS13, emS12, emS11, emS10, emS9, emS8, emS7, emS6, emS5, emS4, emS3, emS2, emS1]
  · simp (disch := omega) only [va_up_self, va_up_ne, emS16, emS15, emS14, emS13, emS12, emS11, emS10, emS9, emS8, emS7, emS6, emS5, emS4, emS3, emS2, emS1]
  · simp (disch := omega) only [va_up_self, va_up_ne, emS16, emS15, emS14, emS13, emS12, emS11, emS10, emS9, emS8, emS7, emS6, emS5, emS4, emS3, emS2, emS1]
  · simp (disch := omega) only [va_up_self, va_up_ne, emS16, emS15, emS14, emS13, emS12, emS11, emS10, emS9, emS8, emS7, emS6, emS5, emS4, emS3, emS2, emS1]
  · simp (disch := omega) only [va_up_self, va_up_ne, emS16, emS15, emS14, emS13, emS12, emS11, emS10, emS9, emS8, emS7, emS6, emS5, emS4, emS3, emS2, emS1]
  · simp (disch := omega) only [va_up_self, va_up_ne, emS16, emS15, emS14, emS13, emS12, emS11, emS10, emS9, emS8, emS7, emS6, emS5, emS4, emS3, emS2, emS1]
  · simp (disch := omega) only [va_up_self, va_up_ne, emS16, emS15, emS14, emS13, emS12, emS11, emS10, emS9, emS8, emS7, emS6, emS5, emS4, emS3, emS2, emS1]
  · simp (disch := omega) only [va_up_self, va_up_ne, hm_put_ne, hI, emI17, emI13, emI11, emI9, emI7, emI5, emI3, emI1]
  · simp (disch := omega) only [va_up_self, va_up_ne, hm_put_self, upd, emI17, emI13, emI11, emI9, emI7, emI5, emI3, emI1]
    split <;> rfl
  · simp (disch := omega) only [va_up_ne, emS16, emS15, emS14, emS13, emS12, emS11, emS10, emS9, emS8, emS7, emS6, emS5, emS4, emS3, emS2, emS1]
  · simp (disch := omega) only [va_up_ne, hm_put_ne, emI17, emI13, emI11, emI9, emI7, emI5, emI3, emI1]
