theorem HS_cong {Sh Sh' : hm_S} {q : Nat} (h : HS Sh q) (e : ∀ b, q ≤ b → b < q + 83 → Sh' b = Sh b) : HS Sh' q := by
  obtain ⟨h1, h2, h3, h4, h5, h6, h7, h8, h9⟩ := h
  exact ⟨(e _ (by omega) (by omega)).trans h1, (e _ (by omega) (by omega)).trans h2, (e _ (by omega) (by omega)).trans h3, (e _ (by omega) (by omega)).trans h4, fun s hs => HF_cong (h5 s hs) (fun b h1 h2 => e b (by omega) (by omega)), HO_cong h6 (fun b h1 h2 => e b (by omega) (by omega)), (e _ (by omega) (by omega)).trans h7, fun s hs => HO_cong (h8 s hs) (fun b h1 h2 => e b (by omega) (by omega)), HF_cong h9 (fun b h1 h2 => e b (by omega) (by omega))⟩
theorem ZS_cong {I I' : hm_I} {q : Nat} (h : ZS I q) (e : ∀ b, q ≤ b → b < q + 83 → I' b = I b) : ZS I' q := by
  obtain ⟨⟨h1, h2, h3, h4⟩, h5, h6, h7, h8, h9, h10⟩ := h
  refine ⟨⟨?_, ?_, ?_, ?_⟩, fun s hs => ?_, fun s => ?_, fun s hs => ?_, fun k => ⟨?_, ?_⟩, fun s hs k => ⟨?_, ?_⟩, ?_⟩
  · rw [e _ (by omega) (by omega)]; exact h1
  · rw [e _ (by omega) (by omega)]; exact h2
  · rw [e _ (by omega) (by omega)]; exact h3
  · rw [e _ (by omega) (by omega)]; exact h4
  · rw [e _ (by omega) (by omega)]; exact h5 s hs
  · rw [e _ (by omega) (by omega)]; exact h6 s
  · rw [e _ (by omega) (by omega)]; exact h7 s hs
  · rw [e _ (by omega) (by omega)]; exact (h8 k).1
  · rw [e _ (by omega) (by omega)]; exact (h8 k).2
  · rw [e _ (by omega) (by omega)]; exact (h9 s hs k).1
  · rw [e _ (by omega) (by omega)]; exact (h9 s hs k).2
  · rw [e _ (by omega) (by omega)]; exact h10
def fH (o i s : Nat) : Option Nat := if s < i then some (o + 83 * s) else none
theorem fH_s (o i : Nat) : va_up (fH o i) i (some (o + 83 * i)) = fH o (i + 1) := by
  funext s
  unfold va_up fH
  by_cases h : s = i
  · rw [if_pos h, if_pos (by omega), h]
  · rw [if_neg h]
    by_cases h2 : s < i
    · rw [if_pos h2, if_pos (by omega)]
    · rw [if_neg h2, if_neg (by omega)]
def R1 (Sh0 : hm_S) (I0 : hm_I) (x i : Nat) (Sh : hm_S) (I : hm_I) : Prop := smB Sh Sh0 I I0 x ∧ Sh x = kO 3 [some (some (x + 1)), some (some (x + 84)), some (some (x + 167)), none, some none, some none, some none] ∧ (∀ k, I x k = 0) ∧ (HS Sh (x + 1) ∧ ZS I (x + 1)) ∧ (HS Sh (x + 84) ∧ ZS I (x + 84)) ∧ Sh (x + 167) = kR 2 8 (fH (x + 168) i) ∧ (∀ j, j < i → HS Sh (x + 168 + 83 * j) ∧ ZS I (x + 168 + 83 * j))
def R2 (Sh0 : hm_S) (I0 : hm_I) (x i : Nat) (Sh : hm_S) (I : hm_I) : Prop := smB Sh Sh0 I I0 x ∧ Sh x = kO 3 [some (some (x + 1)), some (some (x + 84)), some (some (x + 167)), none, some (some (x + 832)), some none, some none] ∧ (∀ k, I x k = 0) ∧ (HS Sh (x + 1) ∧ ZS I (x + 1)) ∧ (HS Sh (x + 84) ∧ ZS I (x + 84)) ∧ Sh (x + 167) = kR 2 8 (fH (x + 168) 8) ∧ (∀ j, j < 8 → HS Sh (x + 168 + 83 * j) ∧ ZS I (x + 168 + 83 * j)) ∧ Sh (x + 832) = kR 2 2 (fH (x + 833) i) ∧ (∀ j, j < i → HS Sh (x + 833 + 83 * j) ∧ ZS I (x + 833 + 83 * j))
theorem R1_s {Sh0 : hm_S} {I0 : hm_I} {x i : Nat} {Sh Sh2 : hm_S} {I I2 : hm_I} {K : hm_K} (h : R1 Sh0 I0 x i Sh I) (hs : smB Sh2 (va_up Sh (x + 168 + 83 * i) K) I2 (va_up I (x + 168 + 83 * i) (fun _ => 0)) (x + 168 + 83 * i)) (hF : HS Sh2 (x + 168 + 83 * i)) (h4 : ZS I2 (x + 168 + 83 * i)) : R1 Sh0 I0 x (i + 1) (va_up Sh2 (x + 167) (kR 2 8 (fH (x + 168) (i + 1)))) I2 := by
  obtain ⟨h1, h2, h3, h5, h6, h7, h8⟩ := h
  have es : ∀ b, b < x + 168 + 83 * i → Sh2 b = Sh b := fun b hb => (hs b hb).1.trans (va_up_ne _ _ (by omega))
  have ei : ∀ b, b < x + 168 + 83 * i → I2 b = I b := fun b hb => (hs b hb).2.trans (va_up_ne _ _ (by omega))
  have eS : ∀ b, b < x + 168 + 83 * i → b ≠ x + 167 → va_up Sh2 (x + 167) (kR 2 8 (fH (x + 168) (i + 1))) b = Sh b := fun b hb hb1 => (va_up_ne _ _ hb1).trans (es b hb)
  refine ⟨fun b hb => ⟨?_, ?_⟩, ?_, fun k => ?_, ⟨HS_cong h5.1 (fun b _ _ => eS b (by omega) (by omega)), ZS_cong h5.2 (fun b _ _ => ei b (by omega))⟩, ⟨HS_cong h6.1 (fun b _ _ => eS b (by omega) (by omega)), ZS_cong h6.2 (fun b _ _ => ei b (by omega))⟩, va_up_self _ _ _, fun j hj => ?_⟩
  · rw [eS b (by omega) (by omega)]; exact (h1 b hb).1
  · rw [ei b (by omega)]; exact (h1 b hb).2
  · rw [eS x (by omega) (by omega)]; exact h2
  · rw [ei x (by omega)]; exact h3 k
  · by_cases hji : j = i
    · rw [hji]; exact ⟨HS_cong hF (fun b _ _ => va_up_ne _ _ (by omega)), h4⟩
    · have hj2 := h8 j (by omega)
      exact ⟨HS_cong hj2.1 (fun b _ _ => eS b (by omega) (by omega)), ZS_cong hj2.2 (fun b _ _ => ei b (by omega))⟩
theorem R2_s {Sh0 : hm_S} {I0 : hm_I} {x i : Nat} {Sh Sh2 : hm_S} {I I2 : hm_I} {K : hm_K} (h : R2 Sh0 I0 x i Sh I) (hs : smB Sh2 (va_up Sh (x + 833 + 83 * i) K) I2 (va_up I (x + 833 + 83 * i) (fun _ => 0)) (x + 833 + 83 * i)) (hF : HS Sh2 (x + 833 + 83 * i)) (h4 : ZS I2 (x + 833 + 83 * i)) : R2 Sh0 I0 x (i + 1) (va_up Sh2 (x + 832) (kR 2 2 (fH (x + 833) (i + 1)))) I2 := by
  obtain ⟨h1, h2, h3, h5, h6, h7, h8, h9, h10⟩ := h
  have es : ∀ b, b < x + 833 + 83 * i → Sh2 b = Sh b := fun b hb => (hs b hb).1.trans (va_up_ne _ _ (by omega))
  have ei : ∀ b, b < x + 833 + 83 * i → I2 b = I b := fun b hb => (hs b hb).2.trans (va_up_ne _ _ (by omega))
  have eS : ∀ b, b < x + 833 + 83 * i → b ≠ x + 832 → va_up Sh2 (x + 832) (kR 2 2 (fH (x + 833) (i + 1))) b = Sh b := fun b hb hb1 => (va_up_ne _ _ hb1).trans (es b hb)
  refine ⟨fun b hb => ⟨?_, ?_⟩, ?_, fun k => ?_, ⟨HS_cong h5.1 (fun b _ _ => eS b (by omega) (by omega)), ZS_cong h5.2 (fun b _ _ => ei b (by omega))⟩, ⟨HS_cong h6.1 (fun b _ _ => eS b (by omega) (by omega)), ZS_cong h6.2 (fun b _ _ => ei b (by omega))⟩, ?_, fun j hj => ⟨HS_cong (h8 j hj).1 (fun b _ _ => eS b (by omega) (by omega)), ZS_cong (h8 j hj).2 (fun b _ _ => ei b (by omega))⟩, va_up_self _ _ _, fun j hj => ?_⟩
  · rw [eS b (by omega) (by omega)]; exact (h1 b hb).1
  · rw [ei b (by omega)]; exact (h1 b hb).2
  · rw [eS x (by omega) (by omega)]; exact h2
  · rw [ei x (by omega)]; exact h3 k
  · rw [eS _ (by omega) (by omega)]; exact h7
  · by_cases hji : j = i
    · rw [hji]; exact ⟨HS_cong hF (fun b _ _ => va_up_ne _ _ (by omega)), h4⟩
    · have hj2 := h10 j (by omega)
      exact ⟨HS_cong hj2.1 (fun b _ _ => eS b (by omega) (by omega)), ZS_cong hj2.2 (fun b _ _ => ei b (by omega))⟩
theorem uX3_init_X3 : ∀ w ∈ wsX30, w ∈ wsX3_init := fun w h => List.mem_cons_of_mem _ (List.mem_append_left _ (List.mem_append_left _ (List.mem_append_right _ h)))
theorem uX3_init_X2 : ∀ w ∈ wsX20, w ∈ wsX3_init := fun w h => List.mem_cons_of_mem _ (List.mem_append_left _ (List.mem_append_left _ (List.mem_append_left _ (List.mem_append_right _ h))))
def X3P (Sh1 : hm_S) (I1 : hm_I) (x : Nat) : Prop := Sh1 x = kO 3 [some (some (x + 1)), some (some (x + 84)), some (some (x + 167)), none, some (some (x + 832)), some (some (x + 999)), some (some (x + 1000))] ∧ (∀ k, I1 x k = 0) ∧ (HS Sh1 (x + 1) ∧ ZS I1 (x + 1)) ∧ (HS Sh1 (x + 84) ∧ ZS I1 (x + 84)) ∧ Sh1 (x + 167) = kR 2 8 (fun i => some (x + 168 + 83 * i)) ∧ (∀ j, j < 8 → HS Sh1 (x + 168 + 83 * j) ∧ ZS I1 (x + 168 + 83 * j)) ∧ Sh1 (x + 832) = kR 2 2 (fun i => some (x + 833 + 83 * i)) ∧ (∀ j, j < 2 → HS Sh1 (x + 833 + 83 * j) ∧ ZS I1 (x + 833 + 83 * j)) ∧ Sh1 (x + 999) = kZ 2 ∧ (∀ k, I1 (x + 999) k = 0) ∧ Sh1 (x + 1000) = kJ 256
set_option maxHeartbeats 4000000 in
set_option maxRecDepth 100000 in
theorem ctX3_init {l : Launch} {D : va_G} {T : Nat → ClassId} {A : Nat → Prop} {B : Nat} {Sh : hm_S} {I : hm_I} {J : hm_J} {x : Nat} (hB : B ≤ x) (hA : ∀ q, B ≤ q → A q) (hs : Sh x = kO 3 [some none, some none, some none, none, some none, some none, some none]) (hI : ∀ k, I x k = 0) :
    Ct l yX3_init wsX3_init { frames := 3, cells := 1000, slots := 7936, locals := 56 } (1000) (7936) D T A [.ref x] (fun H => hm D T (rg B (x + 1)) A Sh I J H ∧ H.size = x + 1) none (fun H => ∃ (Sh1 : hm_S) (I1 : hm_I) (J1 : hm_J), (hm D T (rg B (x + 1001)) A Sh1 I1 J1 H ∧ H.size = x + 1001) ∧ X3P Sh1 I1 x) := by
  refine Ct.ofW (cc := cX3_init) (maxL := 2) (ret := none) (by decide) rfl (Nat.le_of_ble_eq_true rfl) ?_
  intro p_ e_ s_ m_ args_ below_ meth_ c_ ls R Qq hR hQ0 C0 hr hlk hname hP hl
  obtain ⟨hM, hz⟩ := hP
  have hz0 := hz
  have hx := C0.1.1
  have hb := C0.1.2.1
  have hS : va_S A s_.heap s_.heap [] := va_S.rf
  have hl : lv_has ls 2 [(0, .ref x)] := hl
  refine lv_aload_n hx hb dX3_init_0 rfl (lv_at hl 0 rfl) ?_
  refine W.objInit hx hb C0.1.2.2.2.1 (C0.1.2.2.2.2 _ (List.mem_of_getElem? (i := 1) rfl)) (C0.1.2.2.2.2 _ (List.mem_of_getElem? (i := 2) rfl)) (C0.1.2.2.2.2 _ (List.mem_of_getElem? (i := 3) rfl)) rfl (hl.1.trans C0.1.2.2.1.symm) rfl dX3_init_1 (by rw [hR]; exact Nat.le_of_ble_eq_true rfl) (by rw [hR]; exact Nat.le_of_ble_eq_true rfl) ?_
  refine W.eq (g2 := F0 m_ 4 ls []) rfl ?_
  refine lv_aload_n hx hb dX3_init_4 rfl (lv_at hl 0 rfl) ?_
  refine mz_newO (C := RX2) (TT := TX2) (N := 10) (ci := 2) (fs := [none, some none, some none, some none, some none, some none, none, none, none, some none]) C0 uX3_init_X2 tyX2 tyX2_ok (List.mem_of_getElem? (i := 4) rfl) (List.mem_of_getElem? (i := 5) rfl) (List.mem_of_getElem? (i := 6) rfl) hM hz (by omega) hS hA rfl (by decide) (by rw [hR]; show _ ≤ 1000; omega) (by rw [hR]; show _ ≤ 7936; omega) dX3_init_5 (fun H hM1 hS1 hz1 => ?_)
  clear hM hS hz
  have hM := hM1
  have hS := hS1
  clear hM1 hS1
  have hz := hz1
  clear hz1
  have hM1 := hM
  clear hM
  obtain ⟨mS1, emS1⟩ : ∃ f : hm_S, f = va_up Sh (x + 1) (kO 2 [none, some none, some none, some none, some none, some none, none, none, none, some none]) := ⟨_, rfl⟩
  have hbmS1 : mS1 (x) = kO 3 [some none, some none, some none, none, some none, some none, some none] := by rw [emS1]; simp (disch := omega) only [va_up_self, va_up_ne, hs]
  obtain ⟨mI1, emI1⟩ : ∃ f : hm_I, f = va_up I (x + 1) (fun _ => 0) := ⟨_, rfl⟩
  have hM : hm D T (rg B (x + 2)) A mS1 mI1 J H := by rw [emS1, emI1]; exact hM1
  clear hM1
  have hz1 := hz
  clear hz
  have hz : H.size = x + 2 := hz1
  clear hz1
  refine lv_dup hx hb dX3_init_8 rfl ?_
  refine mr_callI (As := []) (rest := [.ref (x + 1), .ref x]) C0 (ctX2_init (Sh := mS1) (I := mI1) (q := x + 1) (by omega) hA (by rw [emS1]; exact va_up_self _ _ _) (fun k => by rw [emI1, va_up_self])) (cwI 0 C0.1.2.2.2.2 ggX3_init_X2_init rfl rfl rfl (C0.1.2.2.2.2 _ (List.mem_of_getElem? (i := 6) rfl)) (C0.1.2.2.2.2 _ (List.mem_of_getElem? (i := 16) rfl)) (C0.1.2.2.2.2 _ (List.mem_of_getElem? (i := 17) rfl)) rfl (by decide +kernel) ⟨by rw [hR]; exact Nat.le_of_ble_eq_true rfl, by rw [hR]; exact Nat.le_of_ble_eq_true rfl⟩) ⟨hM, hz⟩ hS rfl rfl hl.1 (Nat.le_of_ble_eq_true rfl) dX3_init_9 ⟨by rw [hR]; show _ ≤ 1000; omega, by rw [hR]; show _ ≤ 7936; omega⟩ (fun H locs hP hS1 => ?_)
  clear hM hS hz
  have hS := hS1
  clear hS1
  obtain ⟨Sa, Ia, ⟨hM, hz⟩, ha1, ha2, ha3⟩ := hP
  rw [emS1, emI1] at ha1
  have hM1 := hM
  clear hM
  have hM : hm D T (rg B (x + 84)) A Sa Ia J H := hM1
  clear hM1
  have hz1 := hz
  clear hz
  have hz : H.size = x + 84 := hz1
  clear hz1
  have hbA : Sa x = kO 3 [some none, some none, some none, none, some none, some none, some none] := (ha1 x (by omega)).1.trans ((va_up_ne _ _ (by omega)).trans hs)
  refine mr_putr (F := RX2) (TT := TX3) (N := 7) (ci := 3) C0 uX3_init_X3 tyX3 tyX3_ok nmX3 hM hS (rg_in (by omega) (by omega)) (fs := [some none, some none, some none, none, some none, some none, some none]) hbA rfl 0 (by decide) (v0 := none) rfl (v := x + 1) (List.mem_of_getElem? (i := 7) rfl) rfl rfl (by decide +kernel) dX3_init_12 (fun H locs hM1 hS1 => ?_)
  clear hM hS hz
  have hM := hM1
  have hS := hS1
  clear hM1 hS1
  have hz := hz0
  have hM1 := hM
  clear hM
  obtain ⟨mS3, emS3⟩ : ∃ f : hm_S, f = va_up Sa (x) (kO 3 [some (some (x + 1)), some none, some none, none, some none, some none, some none]) := ⟨_, rfl⟩
  have hbmS3 : mS3 (x) = kO 3 [some (some (x + 1)), some none, some none, none, some none, some none, some none] := by rw [emS3]; simp (disch := omega) only [va_up_self, va_up_ne, hbA]
  have hM : hm D T (rg B (x + 84)) A mS3 Ia J H := by rw [emS3]; exact hM1
  clear hM1
  refine mz_sz fun hsz => ?_
  clear hz
  have hz : H.size = x + 84 := mz_size hM (by omega) (by omega) hsz
  clear hsz
  refine lv_aload_n hx hb dX3_init_15 rfl (lv_at hl 0 rfl) ?_
  refine mz_newO (C := RX2) (TT := TX2) (N := 10) (ci := 2) (fs := [none, some none, some none, some none, some none, some none, none, none, none, some none]) C0 uX3_init_X2 tyX2 tyX2_ok (List.mem_of_getElem? (i := 4) rfl) (List.mem_of_getElem? (i := 5) rfl) (List.mem_of_getElem? (i := 6) rfl) hM hz (by omega) hS hA rfl (by decide) (by rw [hR]; show _ ≤ 1000; omega) (by rw [hR]; show _ ≤ 7936; omega) dX3_init_16 (fun H hM1 hS1 hz1 => ?_)
  clear hM hS hz
  have hM := hM1
  have hS := hS1
  clear hM1 hS1
  have hz := hz1
  clear hz1
  have hM1 := hM
  clear hM
  obtain ⟨mS4, emS4⟩ : ∃ f : hm_S, f = va_up mS3 (x + 84) (kO 2 [none, some none, some none, some none, some none, some none, none, none, none, some none]) := ⟨_, rfl⟩
  have hbmS4 : mS4 (x) = kO 3 [some (some (x + 1)), some none, some none, none, some none, some none, some none] := by rw [emS4]; simp (disch := omega) only [va_up_self, va_up_ne, hbmS3]
  obtain ⟨mI4, emI4⟩ : ∃ f : hm_I, f = va_up Ia (x + 84) (fun _ => 0) := ⟨_, rfl⟩
  have hM : hm D T (rg B (x + 85)) A mS4 mI4 J H := by rw [emS4, emI4]; exact hM1
  clear hM1
  have hz1 := hz
  clear hz
  have hz : H.size = x + 85 := hz1
  clear hz1
  refine lv_dup hx hb dX3_init_19 rfl ?_
  refine mr_callI (As := []) (rest := [.ref (x + 84), .ref x]) C0 (ctX2_init (Sh := mS4) (I := mI4) (q := x + 84) (by omega) hA (by rw [emS4]; exact va_up_self _ _ _) (fun k => by rw [emI4, va_up_self])) (cwI 0 C0.1.2.2.2.2 ggX3_init_X2_init rfl rfl rfl (C0.1.2.2.2.2 _ (List.mem_of_getElem? (i := 6) rfl)) (C0.1.2.2.2.2 _ (List.mem_of_getElem? (i := 16) rfl)) (C0.1.2.2.2.2 _ (List.mem_of_getElem? (i := 17) rfl)) rfl (by decide +kernel) ⟨by rw [hR]; exact Nat.le_of_ble_eq_true rfl, by rw [hR]; exact Nat.le_of_ble_eq_true rfl⟩) ⟨hM, hz⟩ hS rfl rfl hl.1 (Nat.le_of_ble_eq_true rfl) dX3_init_20 ⟨by rw [hR]; show _ ≤ 1000; omega, by rw [hR]; show _ ≤ 7936; omega⟩ (fun H locs hP hS1 => ?_)
  clear hM hS hz
  have hS := hS1
  clear hS1
  obtain ⟨Sb, Ib, ⟨hM, hz⟩, hb1, hb2, hb3⟩ := hP
  rw [emS4, emS3, emI4] at hb1
  have hM1 := hM
  clear hM
  have hM : hm D T (rg B (x + 167)) A Sb Ib J H := hM1
  clear hM1
  have hz1 := hz
  clear hz
  have hz : H.size = x + 167 := hz1
  clear hz1
  have hbB : Sb x = kO 3 [some (some (x + 1)), some none, some none, none, some none, some none, some none] := (hb1 x (by omega)).1.trans (by simp (disch := omega) only [va_up_self, va_up_ne])
  refine mr_putF (TT := TX3) (N := 7) (ci := 3) C0 uX3_init_X3 tyX3 tyX3_ok nmX3 hM hS (rg_in (by omega) (by omega)) (fs := [some (some (x + 1)), some none, some none, none, some none, some none, some none]) hbB rfl 1 (by decide) (v0 := none) rfl (v := x + 84) (List.mem_of_getElem? (i := 8) rfl) rfl rfl rfl hname (ty := .object RX2) (by decide +kernel) rfl rfl dX3_init_23 (fun H locs hM1 hS1 => ?_)
  clear hM hS hz
  have hM := hM1
  have hS := hS1
  clear hM1 hS1
  have hz := hz0
  have hM1 := hM
  clear hM
  obtain ⟨mS6, emS6⟩ : ∃ f : hm_S, f = va_up Sb (x) (kO 3 [some (some (x + 1)), some (some (x + 84)), some none, none, some none, some none, some none]) := ⟨_, rfl⟩
  have hbmS6 : mS6 (x) = kO 3 [some (some (x + 1)), some (some (x + 84)), some none, none, some none, some none, some none] := by rw [emS6]; simp (disch := omega) only [va_up_self, va_up_ne, hbB]
  have hM : hm D T (rg B (x + 167)) A mS6 Ib J H := by rw [emS6]; exact hM1
  clear hM1
  refine mz_sz fun hsz => ?_
  clear hz
  have hz : H.size = x + 167 := mz_size hM (by omega) (by omega) hsz
  clear hsz
  refine lv_aload_n hx hb dX3_init_26 rfl (lv_at hl 0 rfl) ?_
  refine lv_bipush (v := nI 8) hx hb dX3_init_27 (by decide) ?_
  refine mz_newR (C := RX2) (t := 2) (n := 8) C0 rfl (List.mem_of_getElem? (i := 4) rfl) C0.2.2.2.2.2.2.2.2.2.2.2 hM hz (by omega) hS hA (by omega) (by rw [hR]; show _ ≤ 1000; omega) (by rw [hR]; show _ ≤ 7936; omega) dX3_init_29 (fun H hM1 hS1 hz1 => ?_)
  clear hM hS hz
  have hM := hM1
  have hS := hS1
  clear hM1 hS1
  have hz := hz1
  clear hz1
  have hM1 := hM
  clear hM
  obtain ⟨mS7, emS7⟩ : ∃ f : hm_S, f = va_up mS6 (x + 167) (kR 2 8 (fun _ => none)) := ⟨_, rfl⟩
  have hbmS7 : mS7 (x) = kO 3 [some (some (x + 1)), some (some (x + 84)), some none, none, some none, some none, some none] := by rw [emS7]; simp (disch := omega) only [va_up_self, va_up_ne, hbmS6]
  have hM : hm D T (rg B (x + 168)) A mS7 Ib J H := by rw [emS7]; exact hM1
  clear hM1
  have hz1 := hz
  clear hz
  have hz : H.size = x + 168 := hz1
  clear hz1
  refine mr_putF (TT := TX3) (N := 7) (ci := 3) C0 uX3_init_X3 tyX3 tyX3_ok nmX3 hM hS (rg_in (by omega) (by omega)) (fs := [some (some (x + 1)), some (some (x + 84)), some none, none, some none, some none, some none]) hbmS7 rfl 2 (by decide) (v0 := none) rfl (v := x + 167) (List.mem_of_getElem? (i := 9) rfl) rfl rfl rfl hname (ty := .array (.object RX2)) (by decide +kernel) rfl rfl dX3_init_32 (fun H locs hM1 hS1 => ?_)
  clear hM hS hz
  have hM := hM1
  have hS := hS1
  clear hM1 hS1
  have hz := hz0
  have hM1 := hM
  clear hM
  obtain ⟨mS8, emS8⟩ : ∃ f : hm_S, f = va_up mS7 (x) (kO 3 [some (some (x + 1)), some (some (x + 84)), some (some (x + 167)), none, some none, some none, some none]) := ⟨_, rfl⟩
  have hbmS8 : mS8 (x) = kO 3 [some (some (x + 1)), some (some (x + 84)), some (some (x + 167)), none, some none, some none, some none] := by rw [emS8]; simp (disch := omega) only [va_up_self, va_up_ne, hbmS7]
  have hM : hm D T (rg B (x + 168)) A mS8 Ib J H := by rw [emS8]; exact hM1
  clear hM1
  refine mz_sz fun hsz => ?_
  clear hz
  have hz : H.size = x + 168 := mz_size hM (by omega) (by omega) hsz
  clear hsz
  refine lv_iconst (v := nI 0) hx hb dX3_init_35 (by decide) ?_
  refine lv_istore_n (lv' := [(1, .int (nI 0)), (0, .ref x)]) hx hb dX3_init_36 rfl hl (by decide) rfl (fun ls hl => ?_)
  refine mz_cs (c2 := 167 + 83 * 0) (s2 := 1286 + 639 * 0) (by omega) (by omega) ?_
  refine up_loop (P := fun i => ∀ (Sh1 : hm_S) (I1 : hm_I) (H : Heap) (locs : List Loc) (ls : Array Slot), hm D T (rg B (x + 168 + 83 * i)) A Sh1 I1 J H → H.size = x + 168 + 83 * i → R1 Sh I x i Sh1 I1 → va_S A s_.heap H locs → lv_has ls 2 [(0, .ref x), (1, .int (nI i))] → W p_ l e_ R s_ m_ args_ below_ meth_ c_ H locs (167 + 83 * i) (1286 + 639 * i) Qq (F0 m_ 37 ls [])) 8 (fun i hi kk Sh1 I1 H locs ls hM hz hQ hS hl => ?_) (fun Sh1 I1 H locs ls hM hz hQ hS hl => ?_) _ _ H locs ls hM hz ?_ hS (lv_sub hl [1, 0] rfl)
  · obtain ⟨h1, h2, h3, h5, h6, h7, h8⟩ := id hQ
    refine lv_iload_n hx hb dX3_init_37 rfl (lv_at hl 1 rfl) ?_
    refine lv_bipush (v := nI 8) hx hb dX3_init_38 (by decide) ?_
    refine mr_geN (x := i) (y := 8) (tgt := 62) C0 dX3_init_40 (by decide) (by omega) (by omega) (fun c5 => absurd c5 (by omega)) (fun c5 => ?_)
    refine lv_aload_n hx hb dX3_init_43 rfl (lv_at hl 0 rfl) ?_
    refine mr_getr (r := x + 167) (TT := TX3) (N := 7) C0 uX3_init_X3 hM (rg_in (by omega) (by omega)) (fs := [some (some (x + 1)), some (some (x + 84)), some (some (x + 167)), none, some none, some none, some none]) h2 rfl 2 (by decide) rfl (List.mem_of_getElem? (i := 9) rfl) rfl dX3_init_44 ?_
    refine lv_iload_n hx hb dX3_init_47 rfl (lv_at hl 1 rfl) ?_
    refine mz_newO (C := RX2) (TT := TX2) (N := 10) (ci := 2) (fs := [none, some none, some none, some none, some none, some none, none, none, none, some none]) C0 uX3_init_X2 tyX2 tyX2_ok (List.mem_of_getElem? (i := 4) rfl) (List.mem_of_getElem? (i := 5) rfl) (List.mem_of_getElem? (i := 6) rfl) hM hz (by omega) hS hA rfl (by decide) (by rw [hR]; show _ ≤ 1000; omega) (by rw [hR]; show _ ≤ 7936; omega) dX3_init_48 (fun H hM1 hS1 hz1 => ?_)
    clear hM hS hz
    have hM := hM1
    have hS := hS1
    clear hM1 hS1
    have hz := hz1
    clear hz1
    have hM1 := hM
    clear hM
    obtain ⟨nS1, enS1⟩ : ∃ f : hm_S, f = va_up Sh1 (x + 168 + 83 * i) (kO 2 [none, some none, some none, some none, some none, some none, none, none, none, some none]) := ⟨_, rfl⟩
    have hbnS1 : nS1 (x) = kO 3 [some (some (x + 1)), some (some (x + 84)), some (some (x + 167)), none, some none, some none, some none] := by rw [enS1]; simp (disch := omega) only [va_up_self, va_up_ne, h2]
    obtain ⟨nI1, enI1⟩ : ∃ f : hm_I, f = va_up I1 (x + 168 + 83 * i) (fun _ => 0) := ⟨_, rfl⟩
    have hM : hm D T (rg B (x + 168 + 83 * i + 1)) A nS1 nI1 J H := by rw [enS1, enI1]; exact hM1
    clear hM1
    have hz1 := hz
    clear hz
    have hz : H.size = x + 168 + 83 * i + 1 := hz1
    clear hz1
    refine lv_dup hx hb dX3_init_51 rfl ?_
    refine mr_callI (As := []) (rest := [.ref (x + 168 + 83 * i), .int (nI i), .ref (x + 167)]) C0 (ctX2_init (Sh := nS1) (I := nI1) (q := x + 168 + 83 * i) (by omega) hA (by rw [enS1]; exact va_up_self _ _ _) (fun k => by rw [enI1, va_up_self])) (cwI 0 C0.1.2.2.2.2 ggX3_init_X2_init rfl rfl rfl (C0.1.2.2.2.2 _ (List.mem_of_getElem? (i := 6) rfl)) (C0.1.2.2.2.2 _ (List.mem_of_getElem? (i := 16) rfl)) (C0.1.2.2.2.2 _ (List.mem_of_getElem? (i := 17) rfl)) rfl (by decide +kernel) ⟨by rw [hR]; exact Nat.le_of_ble_eq_true rfl, by rw [hR]; exact Nat.le_of_ble_eq_true rfl⟩) ⟨hM, hz⟩ hS rfl rfl hl.1 (Nat.le_of_ble_eq_true rfl) dX3_init_52 ⟨by rw [hR]; show _ ≤ 1000; omega, by rw [hR]; show _ ≤ 7936; omega⟩ (fun H locs hP hS1 => ?_)
    clear hM hS hz
    have hS := hS1
    clear hS1
    obtain ⟨Sh2, I2, ⟨hM, hz⟩, hsm, hF, h4⟩ := hP
    rw [enS1, enI1] at hsm
    have hM1 := hM
    clear hM
    have hM : hm D T (rg B (x + 168 + 83 * i + 83)) A Sh2 I2 J H := hM1
    clear hM1
    have hz1 := hz
    clear hz
    have hz : H.size = x + 168 + 83 * i + 83 := hz1
    clear hz1
    have h73 : Sh2 (x + 167) = kR 2 8 (fH (x + 168) i) := ((hsm (x + 167) (by omega)).1.trans (va_up_ne _ _ (by omega))).trans h7
    refine mr_aast (t := 2) (n := 8) (ci := 2) C0 hM hS (rg_in (by omega) (by omega)) h73 rfl (rg_in (by omega) (by omega)) hF.1 rfl (by omega) hi dX3_init_55 (fun H locs hM1 hS1 => ?_)
    clear hM hS hz
    have hM := hM1
    have hS := hS1
    clear hM1 hS1
    have hz := hz0
    rw [fH_s] at hM
    have hM1 := hM
    clear hM
    have hM : hm D T (rg B (x + 168 + 83 * (i + 1))) A (va_up Sh2 (x + 167) (kR 2 8 (fH (x + 168) (i + 1)))) I2 J H := hM1
    clear hM1
    refine mz_sz fun hsz => ?_
    clear hz
    have hz : H.size = x + 168 + 83 * (i + 1) := mz_size hM (by omega) (by omega) hsz
    refine lv_iinc (v := nI (i + 1)) (lv' := [(1, .int (nI (i + 1))), (0, .ref x)]) hx hb dX3_init_56 hl (k := 1) rfl (nI_1 _) (by decide) rfl (fun ls hl => ?_)
    refine lv_goto (tgt := 37) hx hb dX3_init_59 (by decide) ?_
    exact mz_cs (by omega) (by omega) (kk _ _ H locs ls hM hz (R1_s hQ hsm hF h4) hS (lv_sub hl [1, 0] rfl))
  · obtain ⟨h1, h2, h3, h5, h6, h7, h8⟩ := id hQ
    refine lv_iload_n hx hb dX3_init_37 rfl (lv_at hl 1 rfl) ?_
    refine lv_bipush (v := nI 8) hx hb dX3_init_38 (by decide) ?_
    refine mr_geN (x := 8) (y := 8) (tgt := 62) C0 dX3_init_40 (by decide) (by omega) (by omega) (fun c5 => ?_) (fun c5 => absurd c5 (by omega))
    have hM1 := hM
    clear hM
    have hM : hm D T (rg B (x + 832)) A Sh1 I1 J H := hM1
    clear hM1
    have hz1 := hz
    clear hz
    have hz : H.size = x + 832 := hz1
    clear hz1
    refine lv_aload_n hx hb dX3_init_62 rfl (lv_at hl 0 rfl) ?_
    refine lv_iconst (v := 0) hx hb dX3_init_63 (by decide) ?_
    refine mr_puti (TT := TX3) (N := 7) (ci := 3) C0 uX3_init_X3 tyX3 tyX3_ok nmX3 hM hS (rg_in (by omega) (by omega)) (fs := [some (some (x + 1)), some (some (x + 84)), some (some (x + 167)), none, some none, some none, some none]) h2 rfl 3 (by decide) rfl (List.mem_of_getElem? (i := 10) rfl) rfl rfl (by decide +kernel) dX3_init_64 (fun H locs hM1 hS1 => ?_)
    clear hM hS hz
    have hM := hM1
    have hS := hS1
    clear hM1 hS1
    have hz := hz0
    have hM1 := hM
    clear hM
    obtain ⟨oI2, eoI2⟩ : ∃ f : hm_I, f = hm_put I1 (x) 3 (0) := ⟨_, rfl⟩
    have hM : hm D T (rg B (x + 832)) A Sh1 oI2 J H := by rw [eoI2]; exact hM1
    clear hM1
    refine mz_sz fun hsz => ?_
    clear hz
    have hz : H.size = x + 832 := mz_size hM (by omega) (by omega) hsz
    clear hsz
    refine lv_aload_n hx hb dX3_init_67 rfl (lv_at hl 0 rfl) ?_
    refine lv_iconst (v := nI 2) hx hb dX3_init_68 (by decide) ?_
    refine mz_newR (C := RX2) (t := 2) (n := 2) C0 rfl (List.mem_of_getElem? (i := 4) rfl) C0.2.2.2.2.2.2.2.2.2.2.2 hM hz (by omega) hS hA (by omega) (by rw [hR]; show _ ≤ 1000; omega) (by rw [hR]; show _ ≤ 7936; omega) dX3_init_69 (fun H hM1 hS1 hz1 => ?_)
    clear hM hS hz
    have hM := hM1
    have hS := hS1
    clear hM1 hS1
    have hz := hz1
    clear hz1
    have hM1 := hM
    clear hM
    obtain ⟨oS3, eoS3⟩ : ∃ f : hm_S, f = va_up Sh1 (x + 832) (kR 2 2 (fun _ => none)) := ⟨_, rfl⟩
    have hboS3 : oS3 (x) = kO 3 [some (some (x + 1)), some (some (x + 84)), some (some (x + 167)), none, some none, some none, some none] := by rw [eoS3]; simp (disch := omega) only [va_up_self, va_up_ne, h2]
    have hM : hm D T (rg B (x + 833)) A oS3 oI2 J H := by rw [eoS3]; exact hM1
    clear hM1
    have hz1 := hz
    clear hz
    have hz : H.size = x + 833 := hz1
    clear hz1
    refine mr_putF (TT := TX3) (N := 7) (ci := 3) C0 uX3_init_X3 tyX3 tyX3_ok nmX3 hM hS (rg_in (by omega) (by omega)) (fs := [some (some (x + 1)), some (some (x + 84)), some (some (x + 167)), none, some none, some none, some none]) hboS3 rfl 4 (by decide) (v0 := none) rfl (v := x + 832) (List.mem_of_getElem? (i := 11) rfl) rfl rfl rfl hname (ty := .array (.object RX2)) (by decide +kernel) rfl rfl dX3_init_72 (fun H locs hM1 hS1 => ?_)
    clear hM hS hz
    have hM := hM1
    have hS := hS1
    clear hM1 hS1
    have hz := hz0
    have hM1 := hM
    clear hM
    obtain ⟨oS4, eoS4⟩ : ∃ f : hm_S, f = va_up oS3 (x) (kO 3 [some (some (x + 1)), some (some (x + 84)), some (some (x + 167)), none, some (some (x + 832)), some none, some none]) := ⟨_, rfl⟩
    have hboS4 : oS4 (x) = kO 3 [some (some (x + 1)), some (some (x + 84)), some (some (x + 167)), none, some (some (x + 832)), some none, some none] := by rw [eoS4]; simp (disch := omega) only [va_up_self, va_up_ne, hboS3]
    have hM : hm D T (rg B (x + 833)) A oS4 oI2 J H := by rw [eoS4]; exact hM1
    clear hM1
    refine mz_sz fun hsz => ?_
    clear hz
    have hz : H.size = x + 833 := mz_size hM (by omega) (by omega) hsz
    clear hsz
    refine lv_iconst (v := nI 0) hx hb dX3_init_75 (by decide) ?_
    refine lv_istore_n (lv' := [(1, .int (nI 0)), (0, .ref x)]) hx hb dX3_init_76 rfl hl (by decide) rfl (fun ls hl => ?_)
    refine mz_cs (c2 := 832 + 83 * 0) (s2 := 6400 + 639 * 0) (by omega) (by omega) ?_
    refine up_loop (P := fun i => ∀ (Sh1 : hm_S) (I1 : hm_I) (H : Heap) (locs : List Loc) (ls : Array Slot), hm D T (rg B (x + 833 + 83 * i)) A Sh1 I1 J H → H.size = x + 833 + 83 * i → R2 Sh I x i Sh1 I1 → va_S A s_.heap H locs → lv_has ls 2 [(0, .ref x), (1, .int (nI i))] → W p_ l e_ R s_ m_ args_ below_ meth_ c_ H locs (832 + 83 * i) (6400 + 639 * i) Qq (F0 m_ 77 ls [])) 2 (fun i hi kk Sh1 I1 H locs ls hM hz hQ hS hl => ?_) (fun Sh1 I1 H locs ls hM hz hQ hS hl => ?_) _ _ H locs ls hM hz ?_ hS (lv_sub hl [1, 0] rfl)
    · obtain ⟨h1, h2, h3, h5, h6, h7, h8, h9, h10⟩ := id hQ
      refine lv_iload_n hx hb dX3_init_77 rfl (lv_at hl 1 rfl) ?_
      refine lv_iconst (v := nI 2) hx hb dX3_init_78 (by decide) ?_
      refine mr_geN (x := i) (y := 2) (tgt := 101) C0 dX3_init_79 (by decide) (by omega) (by omega) (fun c5 => absurd c5 (by omega)) (fun c5 => ?_)
      refine lv_aload_n hx hb dX3_init_82 rfl (lv_at hl 0 rfl) ?_
      refine mr_getr (r := x + 832) (TT := TX3) (N := 7) C0 uX3_init_X3 hM (rg_in (by omega) (by omega)) (fs := [some (some (x + 1)), some (some (x + 84)), some (some (x + 167)), none, some (some (x + 832)), some none, some none]) h2 rfl 4 (by decide) rfl (List.mem_of_getElem? (i := 11) rfl) rfl dX3_init_83 ?_
      refine lv_iload_n hx hb dX3_init_86 rfl (lv_at hl 1 rfl) ?_
      refine mz_newO (C := RX2) (TT := TX2) (N := 10) (ci := 2) (fs := [none, some none, some none, some none, some none, some none, none, none, none, some none]) C0 uX3_init_X2 tyX2 tyX2_ok (List.mem_of_getElem? (i := 4) rfl) (List.mem_of_getElem? (i := 5) rfl) (List.mem_of_getElem? (i := 6) rfl) hM hz (by omega) hS hA rfl (by decide) (by rw [hR]; show _ ≤ 1000; omega) (by rw [hR]; show _ ≤ 7936; omega) dX3_init_87 (fun H hM1 hS1 hz1 => ?_)
      clear hM hS hz
      have hM := hM1
      have hS := hS1
      clear hM1 hS1
      have hz := hz1
      clear hz1
      have hM1 := hM
      clear hM
      obtain ⟨nS1, enS1⟩ : ∃ f : hm_S, f = va_up Sh1 (x + 833 + 83 * i) (kO 2 [none, some none, some none, some none, some none, some none, none, none, none, some none]) := ⟨_, rfl⟩
      have hbnS1 : nS1 (x) = kO 3 [some (some (x + 1)), some (some (x + 84)), some (some (x + 167)), none, some (some (x + 832)), some none, some none] := by rw [enS1]; simp (disch := omega) only [va_up_self, va_up_ne, h2]
      obtain ⟨nI1, enI1⟩ : ∃ f : hm_I, f = va_up I1 (x + 833 + 83 * i) (fun _ => 0) := ⟨_, rfl⟩
      have hM : hm D T (rg B (x + 833 + 83 * i + 1)) A nS1 nI1 J H := by rw [enS1, enI1]; exact hM1
      clear hM1
      have hz1 := hz
      clear hz
      have hz : H.size = x + 833 + 83 * i + 1 := hz1
      clear hz1
      refine lv_dup hx hb dX3_init_90 rfl ?_
      refine mr_callI (As := []) (rest := [.ref (x + 833 + 83 * i), .int (nI i), .ref (x + 832)]) C0 (ctX2_init (Sh := nS1) (I := nI1) (q := x + 833 + 83 * i) (by omega) hA (by rw [enS1]; exact va_up_self _ _ _) (fun k => by rw [enI1, va_up_self])) (cwI 0 C0.1.2.2.2.2 ggX3_init_X2_init rfl rfl rfl (C0.1.2.2.2.2 _ (List.mem_of_getElem? (i := 6) rfl)) (C0.1.2.2.2.2 _ (List.mem_of_getElem? (i := 16) rfl)) (C0.1.2.2.2.2 _ (List.mem_of_getElem? (i := 17) rfl)) rfl (by decide +kernel) ⟨by rw [hR]; exact Nat.le_of_ble_eq_true rfl, by rw [hR]; exact Nat.le_of_ble_eq_true rfl⟩) ⟨hM, hz⟩ hS rfl rfl hl.1 (Nat.le_of_ble_eq_true rfl) dX3_init_91 ⟨by rw [hR]; show _ ≤ 1000; omega, by rw [hR]; show _ ≤ 7936; omega⟩ (fun H locs hP hS1 => ?_)
      clear hM hS hz
      have hS := hS1
      clear hS1
      obtain ⟨Sh2, I2, ⟨hM, hz⟩, hsm, hF, h4⟩ := hP
      rw [enS1, enI1] at hsm
      have hM1 := hM
      clear hM
      have hM : hm D T (rg B (x + 833 + 83 * i + 83)) A Sh2 I2 J H := hM1
      clear hM1
      have hz1 := hz
      clear hz
      have hz : H.size = x + 833 + 83 * i + 83 := hz1
      clear hz1
      have h73 : Sh2 (x + 832) = kR 2 2 (fH (x + 833) i) := ((hsm (x + 832) (by omega)).1.trans (va_up_ne _ _ (by omega))).trans h9
      refine mr_aast (t := 2) (n := 2) (ci := 2) C0 hM hS (rg_in (by omega) (by omega)) h73 rfl (rg_in (by omega) (by omega)) hF.1 rfl (by omega) hi dX3_init_94 (fun H locs hM1 hS1 => ?_)
      clear hM hS hz
      have hM := hM1
      have hS := hS1
      clear hM1 hS1
      have hz := hz0
      rw [fH_s] at hM
      have hM1 := hM
      clear hM
      have hM : hm D T (rg B (x + 833 + 83 * (i + 1))) A (va_up Sh2 (x + 832) (kR 2 2 (fH (x + 833) (i + 1)))) I2 J H := hM1
      clear hM1
      refine mz_sz fun hsz => ?_
      clear hz
      have hz : H.size = x + 833 + 83 * (i + 1) := mz_size hM (by omega) (by omega) hsz
      refine lv_iinc (v := nI (i + 1)) (lv' := [(1, .int (nI (i + 1))), (0, .ref x)]) hx hb dX3_init_95 hl (k := 1) rfl (nI_1 _) (by decide) rfl (fun ls hl => ?_)
      refine lv_goto (tgt := 77) hx hb dX3_init_98 (by decide) ?_
      exact mz_cs (by omega) (by omega) (kk _ _ H locs ls hM hz (R2_s hQ hsm hF h4) hS (lv_sub hl [1, 0] rfl))
    · obtain ⟨h1, h2, h3, h5, h6, h7, h8, h9, h10⟩ := id hQ
      refine lv_iload_n hx hb dX3_init_77 rfl (lv_at hl 1 rfl) ?_
      refine lv_iconst (v := nI 2) hx hb dX3_init_78 (by decide) ?_
      refine mr_geN (x := 2) (y := 2) (tgt := 101) C0 dX3_init_79 (by decide) (by omega) (by omega) (fun c5 => ?_) (fun c5 => absurd c5 (by omega))
      have hM1 := hM
      clear hM
      have hM : hm D T (rg B (x + 999)) A Sh1 I1 J H := hM1
      clear hM1
      have hz1 := hz
      clear hz
      have hz : H.size = x + 999 := hz1
      clear hz1
      refine lv_aload_n hx hb dX3_init_101 rfl (lv_at hl 0 rfl) ?_
      refine lv_iconst (v := nI 2) hx hb dX3_init_102 (by decide) ?_
      refine mz_newZ (n := 2) C0 (List.mem_of_getElem? (i := 12) rfl) hM hz (by omega) hS hA (by omega) (by rw [hR]; show _ ≤ 1000; omega) (by rw [hR]; show _ ≤ 7936; omega) dX3_init_103 (fun H hM1 hS1 hz1 => ?_)
      clear hM hS hz
      have hM := hM1
      have hS := hS1
      clear hM1 hS1
      have hz := hz1
      clear hz1
      have hM1 := hM
      clear hM
      obtain ⟨rS2, erS2⟩ : ∃ f : hm_S, f = va_up Sh1 (x + 999) (kZ 2) := ⟨_, rfl⟩
      have hbrS2 : rS2 (x) = kO 3 [some (some (x + 1)), some (some (x + 84)), some (some (x + 167)), none, some (some (x + 832)), some none, some none] := by rw [erS2]; simp (disch := omega) only [va_up_self, va_up_ne, h2]
      obtain ⟨rI2, erI2⟩ : ∃ f : hm_I, f = va_up I1 (x + 999) (fun _ => 0) := ⟨_, rfl⟩
      have hM : hm D T (rg B (x + 1000)) A rS2 rI2 J H := by rw [erS2, erI2]; exact hM1
      clear hM1
      have hz1 := hz
      clear hz
      have hz : H.size = x + 1000 := hz1
      clear hz1
      refine mr_putF (TT := TX3) (N := 7) (ci := 3) C0 uX3_init_X3 tyX3 tyX3_ok nmX3 hM hS (rg_in (by omega) (by omega)) (fs := [some (some (x + 1)), some (some (x + 84)), some (some (x + 167)), none, some (some (x + 832)), some none, some none]) hbrS2 rfl 5 (by decide) (v0 := none) rfl (v := x + 999) (List.mem_of_getElem? (i := 13) rfl) rfl rfl rfl hname (ty := .array .boolean) (by decide +kernel) rfl rfl dX3_init_105 (fun H locs hM1 hS1 => ?_)
      clear hM hS hz
      have hM := hM1
      have hS := hS1
      clear hM1 hS1
      have hz := hz0
      have hM1 := hM
      clear hM
      obtain ⟨rS3, erS3⟩ : ∃ f : hm_S, f = va_up rS2 (x) (kO 3 [some (some (x + 1)), some (some (x + 84)), some (some (x + 167)), none, some (some (x + 832)), some (some (x + 999)), some none]) := ⟨_, rfl⟩
      have hbrS3 : rS3 (x) = kO 3 [some (some (x + 1)), some (some (x + 84)), some (some (x + 167)), none, some (some (x + 832)), some (some (x + 999)), some none] := by rw [erS3]; simp (disch := omega) only [va_up_self, va_up_ne, hbrS2]
      have hM : hm D T (rg B (x + 1000)) A rS3 rI2 J H := by rw [erS3]; exact hM1
      clear hM1
      refine mz_sz fun hsz => ?_
      clear hz
      have hz : H.size = x + 1000 := mz_size hM (by omega) (by omega) hsz
      clear hsz
      refine lv_aload_n hx hb dX3_init_108 rfl (lv_at hl 0 rfl) ?_
      refine lv_sipush (v := nI 256) hx hb dX3_init_109 (by decide) ?_
      refine mz_newJ (n := 256) C0 (List.mem_of_getElem? (i := 14) rfl) hM hz (by omega) hS hA (by omega) (by rw [hR]; show _ ≤ 1000; omega) (by rw [hR]; show _ ≤ 7936; omega) dX3_init_112 (fun H hM1 hS1 hz1 => ?_)
      clear hM hS hz
      have hM := hM1
      have hS := hS1
      clear hM1 hS1
      have hz := hz1
      clear hz1
      have hM1 := hM
      clear hM
      obtain ⟨rS4, erS4⟩ : ∃ f : hm_S, f = va_up rS3 (x + 1000) (kJ 256) := ⟨_, rfl⟩
      have hbrS4 : rS4 (x) = kO 3 [some (some (x + 1)), some (some (x + 84)), some (some (x + 167)), none, some (some (x + 832)), some (some (x + 999)), some none] := by rw [erS4]; simp (disch := omega) only [va_up_self, va_up_ne, hbrS3]
      obtain ⟨rJ4, erJ4⟩ : ∃ f : hm_J, f = va_up J (x + 1000) (fun _ => 0) := ⟨_, rfl⟩
      have hM : hm D T (rg B (x + 1001)) A rS4 rI2 rJ4 H := by rw [erS4, erJ4]; exact hM1
      clear hM1
      have hz1 := hz
      clear hz
      have hz : H.size = x + 1001 := hz1
      clear hz1
      refine mr_putF (TT := TX3) (N := 7) (ci := 3) C0 uX3_init_X3 tyX3 tyX3_ok nmX3 hM hS (rg_in (by omega) (by omega)) (fs := [some (some (x + 1)), some (some (x + 84)), some (some (x + 167)), none, some (some (x + 832)), some (some (x + 999)), some none]) hbrS4 rfl 6 (by decide) (v0 := none) rfl (v := x + 1000) (List.mem_of_getElem? (i := 15) rfl) rfl rfl rfl hname (ty := .array .long) (by decide +kernel) rfl rfl dX3_init_114 (fun H locs hM1 hS1 => ?_)
      clear hM hS hz
      have hM := hM1
      have hS := hS1
      clear hM1 hS1
      have hz := hz0
      have hM1 := hM
      clear hM
      obtain ⟨rS5, erS5⟩ : ∃ f : hm_S, f = va_up rS4 (x) (kO 3 [some (some (x + 1)), some (some (x + 84)), some (some (x + 167)), none, some (some (x + 832)), some (some (x + 999)), some (some (x + 1000))]) := ⟨_, rfl⟩
      have hbrS5 : rS5 (x) = kO 3 [some (some (x + 1)), some (some (x + 84)), some (some (x + 167)), none, some (some (x + 832)), some (some (x + 999)), some (some (x + 1000))] := by rw [erS5]; simp (disch := omega) only [va_up_self, va_up_ne, hbrS4]
      have hM : hm D T (rg B (x + 1001)) A rS5 rI2 rJ4 H := by rw [erS5]; exact hM1
      clear hM1
      refine mz_sz fun hsz => ?_
      clear hz
      have hz : H.size = x + 1001 := mz_size hM (by omega) (by omega) hsz
      clear hsz
      have eS : ∀ b, b < x + 999 → b ≠ x → rS5 b = Sh1 b := fun b hb hne => by simp (disch := omega) only [va_up_self, va_up_ne, erS5, erS4, erS3, erS2]
      have eI : ∀ b, b < x + 999 → rI2 b = I1 b := fun b hb => by simp (disch := omega) only [va_up_self, va_up_ne, erI2]
      have hM2 := hm_reR (f' := fun i => some (x + 168 + 83 * i)) hM (a := x + 167) (rg_in (by omega) (by omega)) ((eS _ (by omega) (by omega)).trans h7) (fun j hj => if_pos hj)
      have hM3 := hm_reR (f' := fun i => some (x + 833 + 83 * i)) hM2 (a := x + 832) (rg_in (by omega) (by omega)) ((va_up_ne _ _ (by omega)).trans ((eS _ (by omega) (by omega)).trans h9)) (fun j hj => if_pos hj)
      have eR : ∀ b, b < x + 999 → b ≠ x → b ≠ x + 167 → b ≠ x + 832 → (va_up (va_up rS5 (x + 167) (kR 2 8 (fun i => some (x + 168 + 83 * i)))) (x + 832) (kR 2 2 (fun i => some (x + 833 + 83 * i)))) b = Sh1 b := fun b hb n1 n2 n3 => (va_up_ne _ _ n3).trans ((va_up_ne _ _ n2).trans (eS b hb n1))
      refine mz_cs (c2 := 1000) (s2 := 7936) (by omega) (by omega) ?_
      refine mr_vret C0 hr hlk hQ0 hS rfl ⟨_, _, _, ⟨hM3, hz⟩, ?_, fun k => ?_, ⟨HS_cong h5.1 (fun b _ _ => eR b (by omega) (by omega) (by omega) (by omega)), ZS_cong h5.2 (fun b _ _ => eI b (by omega))⟩, ⟨HS_cong h6.1 (fun b _ _ => eR b (by omega) (by omega) (by omega) (by omega)), ZS_cong h6.2 (fun b _ _ => eI b (by omega))⟩, ?_, fun j hj => ⟨HS_cong (h8 j hj).1 (fun b _ _ => eR b (by omega) (by omega) (by omega) (by omega)), ZS_cong (h8 j hj).2 (fun b _ _ => eI b (by omega))⟩, va_up_self _ _ _, fun j hj => ⟨HS_cong (h10 j hj).1 (fun b _ _ => eR b (by omega) (by omega) (by omega) (by omega)), ZS_cong (h10 j hj).2 (fun b _ _ => eI b (by omega))⟩, ?_, fun k => ?_, ?_⟩ (Nat.le_refl _) (Nat.le_refl _) dX3_init_117
      · simp (disch := omega) only [va_up_self, va_up_ne, erS5, erS4, erS3, erS2]
      · rw [eI x (by omega)]; exact h3 k
      · simp (disch := omega) only [va_up_self, va_up_ne]
      · simp (disch := omega) only [va_up_self, va_up_ne, erS5, erS4, erS3, erS2]
      · simp (disch := omega) only [va_up_self, va_up_ne, erI2]
      · simp (disch := omega) only [va_up_self, va_up_ne, erS5, erS4, erS3, erS2]
    · have eS : ∀ b, b < x + 832 → b ≠ x → oS4 b = Sh1 b := fun b hb hne => by simp (disch := omega) only [va_up_self, va_up_ne, eoS4, eoS3]
      have eI : ∀ b, b ≠ x → oI2 b = I1 b := fun b hb => by rw [eoI2]; exact hm_put_ne _ _ _ _ hb
      refine ⟨fun b hb => ⟨?_, ?_⟩, ?_, fun k => ?_, ⟨HS_cong h5.1 (fun b _ _ => eS b (by omega) (by omega)), ZS_cong h5.2 (fun b _ _ => eI b (by omega))⟩, ⟨HS_cong h6.1 (fun b _ _ => eS b (by omega) (by omega)), ZS_cong h6.2 (fun b _ _ => eI b (by omega))⟩, ?_, fun j hj => ⟨HS_cong (h8 j hj).1 (fun b _ _ => eS b (by omega) (by omega)), ZS_cong (h8 j hj).2 (fun b _ _ => eI b (by omega))⟩, ?_, fun e he => absurd he (Nat.not_lt_zero _)⟩
      · rw [eS b (by omega) (by omega)]; exact (h1 b hb).1
      · rw [eI b (by omega)]; exact (h1 b hb).2
      · simp (disch := omega) only [va_up_self, va_up_ne, eoS4, eoS3]
      · rw [eoI2, hm_put_self]; simp [upd]; exact fun _ => h3 k
      · rw [eS _ (by omega) (by omega)]; exact h7
      · simp (disch := omega) only [va_up_self, va_up_ne, eoS4, eoS3]
        exact congrArg (kR 2 2) (funext fun s => (if_neg (Nat.not_lt_zero s)).symm)
  · have eS : ∀ b, b < x + 167 → b ≠ x → mS8 b = Sb b := fun b hb hne => by simp (disch := omega) only [va_up_self, va_up_ne, emS8, emS7, emS6]
    refine ⟨fun b hb => ⟨?_, ?_⟩, ?_, fun k => ?_, ⟨HS_cong ha2 (fun b _ _ => (eS b (by omega) (by omega)).trans ((hb1 b (by omega)).1.trans ((va_up_ne _ _ (by omega)).trans (va_up_ne _ _ (by omega))))), ZS_cong ha3 (fun b _ _ => (hb1 b (by omega)).2.trans (va_up_ne _ _ (by omega)))⟩, ⟨HS_cong hb2 (fun b _ _ => eS b (by omega) (by omega)), hb3⟩, ?_, fun e he => absurd he (Nat.not_lt_zero _)⟩
    · rw [eS b (by omega) (by omega), (hb1 b (by omega)).1, va_up_ne _ _ (by omega), va_up_ne _ _ (by omega), (ha1 b (by omega)).1, va_up_ne _ _ (by omega)]
    · rw [(hb1 b (by omega)).2, va_up_ne _ _ (by omega), (ha1 b (by omega)).2, va_up_ne _ _ (by omega)]
    · simp (disch := omega) only [va_up_self, va_up_ne, emS8, emS7, emS6]
    · rw [(hb1 x (by omega)).2, va_up_ne _ _ (by omega), (ha1 x (by omega)).2, va_up_ne _ _ (by omega)]; exact hI k
    · simp (disch := omega) only [va_up_self, va_up_ne, emS8, emS7, emS6]
      exact congrArg (kR 2 8) (funext fun s => (if_neg (Nat.not_lt_zero s)).symm)
