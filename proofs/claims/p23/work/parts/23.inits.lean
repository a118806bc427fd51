theorem HF_cong {Sh Sh' : hm_S} {a n : Nat} (h : HF Sh a n) (e : ∀ b, a ≤ b → b < a + 5 → Sh' b = Sh b) : HF Sh' a n := by
  obtain ⟨h1, h2, h3, h4, h5⟩ := h
  exact ⟨(e _ (by omega) (by omega)).trans h1, (e _ (by omega) (by omega)).trans h2, (e _ (by omega) (by omega)).trans h3, (e _ (by omega) (by omega)).trans h4, (e _ (by omega) (by omega)).trans h5⟩
theorem HO_cong {Sh Sh' : hm_S} {a : Nat} (h : HO Sh a) (e : ∀ b, a ≤ b → b < a + 3 → Sh' b = Sh b) : HO Sh' a := by
  obtain ⟨h1, h2, h3⟩ := h
  exact ⟨(e _ (by omega) (by omega)).trans h1, (e _ (by omega) (by omega)).trans h2, (e _ (by omega) (by omega)).trans h3⟩
/-- a row of references: what lies behind its end says nothing -/
theorem hm_reR {D : va_G} {T : Nat → ClassId} {L : List Nat} {A : Nat → Prop} {Sh : hm_S} {I : hm_I} {J : hm_J} {H : Heap} {a t n : Nat} {f f' : Nat → Option Nat} (hM : hm D T L A Sh I J H) (ha : a ∈ L) (hs : Sh a = kR t n f) (h : ∀ j, j < n → f j = f' j) : hm D T L A (va_up Sh a (kR t n f')) I J H := by
  have e0 := hm_e_R (I := I) (J := J) (T := T) hs
  obtain ⟨q, hq⟩ := hm_place (J := J) ha e0
  have e1 : vp_cell (T (3 + t)) (n, .inr (.inr (.inr (.inr f)))) = vp_cell (T (3 + t)) (n, .inr (.inr (.inr (.inr f')))) := by
    rw [vp_cell_q, vp_cell_q]
    unfold arrV
    congr 2
    funext j
    show va_rf (f j.val) = va_rf (f' j.val)
    rw [h j.val j.isLt]
  have h0 : H[a]? = some (vp_cell (T (3 + t)) (n, .inr (.inr (.inr (.inr f))))) := hM.1 q _ hq
  refine hm_write hM ha e0 hq (x := .inl (T (3 + t), n, .inr (.inr (.inr (.inr f'))))) (hm_e_R (va_up_self _ _ _)) (fun b hne => hm_e_up a _ hne) (hM.1.set hM.2 hq (by show H[a]? = _; rw [h0, e1]) (fun _ _ => rfl)) (hM.2.set hq)
def HS (Sh : hm_S) (q : Nat) : Prop := Sh q = kO 2 [none, some (some (q + 1)), some (some (q + 2)), some (some (q + 3)), some (some (q + 44)), some (some (q + 47)), none, none, none, some (some (q + 78))] ∧ Sh (q + 1) = kI 8 ∧ Sh (q + 2) = kI 8 ∧ Sh (q + 3) = kR 0 8 (fun s => some (q + 4 + 5 * s)) ∧ (∀ s, s < 8 → HF Sh (q + 4 + 5 * s) 6) ∧ HO Sh (q + 44) ∧ Sh (q + 47) = kR 1 10 (fun e => some (q + 48 + 3 * e)) ∧ (∀ e, e < 10 → HO Sh (q + 48 + 3 * e)) ∧ HF Sh (q + 78) 40
def ZS (I : hm_I) (q : Nat) : Prop := (I q 0 = 0 ∧ I q 6 = 1 ∧ I q 7 = 0 ∧ I q 8 = 0) ∧ (∀ s, s < 8 → I (q + 1) s = 1) ∧ (∀ s, I (q + 2) s = 0) ∧ (∀ s, s < 8 → I (q + 4 + 5 * s) 4 = 0) ∧ (∀ k, I (q + 45) k = 0 ∧ I (q + 46) k = 0) ∧ (∀ e, e < 10 → ∀ k, I (q + 48 + 3 * e + 1) k = 0 ∧ I (q + 48 + 3 * e + 2) k = 0) ∧ I (q + 78) 4 = 0
def fQ (q i s : Nat) : Option Nat := if s < i then some (q + 4 + 5 * s) else none
def fE (q i s : Nat) : Option Nat := if s < i then some (q + 48 + 3 * s) else none
def Q1 (Sh0 : hm_S) (I0 : hm_I) (q i : Nat) (Sh : hm_S) (I : hm_I) : Prop := smB Sh Sh0 I I0 q ∧ Sh q = kO 2 [none, some (some (q + 1)), some (some (q + 2)), some (some (q + 3)), some none, some none, none, none, none, some none] ∧ (∀ k, I q k = 0) ∧ Sh (q + 1) = kI 8 ∧ Sh (q + 2) = kI 8 ∧ Sh (q + 3) = kR 0 8 (fQ q i) ∧ (∀ s, s < i → HF Sh (q + 4 + 5 * s) 6 ∧ I (q + 4 + 5 * s) 4 = 0 ∧ I (q + 1) s = 1) ∧ (∀ k, I (q + 2) k = 0)
def Q3 (Sh0 : hm_S) (I0 : hm_I) (q i : Nat) (Sh : hm_S) (I : hm_I) : Prop := smB Sh Sh0 I I0 q ∧ Sh q = kO 2 [none, some (some (q + 1)), some (some (q + 2)), some (some (q + 3)), some (some (q + 44)), some (some (q + 47)), none, none, none, some none] ∧ (∀ k, I q k = 0) ∧ Sh (q + 1) = kI 8 ∧ Sh (q + 2) = kI 8 ∧ Sh (q + 3) = kR 0 8 (fQ q 8) ∧ (∀ s, s < 8 → HF Sh (q + 4 + 5 * s) 6 ∧ I (q + 4 + 5 * s) 4 = 0 ∧ I (q + 1) s = 1) ∧ (∀ k, I (q + 2) k = 0) ∧ HO Sh (q + 44) ∧ (∀ k, I (q + 45) k = 0 ∧ I (q + 46) k = 0) ∧ Sh (q + 47) = kR 1 10 (fE q i) ∧ (∀ e, e < i → HO Sh (q + 48 + 3 * e) ∧ ∀ k, I (q + 48 + 3 * e + 1) k = 0 ∧ I (q + 48 + 3 * e + 2) k = 0)
theorem fQ_s (q i : Nat) : va_up (fQ q i) i (some (q + 4 + 5 * i)) = fQ q (i + 1) := by
  funext s
  unfold va_up fQ
  by_cases h : s = i
  · rw [if_pos h, if_pos (by omega), h]
  · rw [if_neg h]
    by_cases h2 : s < i
    · rw [if_pos h2, if_pos (by omega)]
    · rw [if_neg h2, if_neg (by omega)]
theorem fE_s (q i : Nat) : va_up (fE q i) i (some (q + 48 + 3 * i)) = fE q (i + 1) := by
  funext s
  unfold va_up fE
  by_cases h : s = i
  · rw [if_pos h, if_pos (by omega), h]
  · rw [if_neg h]
    by_cases h2 : s < i
    · rw [if_pos h2, if_pos (by omega)]
    · rw [if_neg h2, if_neg (by omega)]
theorem Q1_s {Sh0 : hm_S} {I0 : hm_I} {q i : Nat} {Sh Sh2 : hm_S} {I I2 : hm_I} {K : hm_K} (h : Q1 Sh0 I0 q i Sh I) (hs : smB Sh2 (va_up Sh (q + 4 + 5 * i) K) I2 (va_up (hm_put I (q + 1) i 1) (q + 4 + 5 * i) (fun _ => 0)) (q + 4 + 5 * i)) (hF : HF Sh2 (q + 4 + 5 * i) 6) (h4 : I2 (q + 4 + 5 * i) 4 = 0) : Q1 Sh0 I0 q (i + 1) (va_up Sh2 (q + 3) (kR 0 8 (fQ q (i + 1)))) I2 := by
  obtain ⟨h1, h2, h3, h5, h6, h7, h8, h9⟩ := h
  have es : ∀ b, b < q + 4 + 5 * i → Sh2 b = Sh b := fun b hb => (hs b hb).1.trans (va_up_ne _ _ (by omega))
  have ei : ∀ b, b < q + 4 + 5 * i → b ≠ q + 1 → I2 b = I b := fun b hb hb1 => ((hs b hb).2.trans (va_up_ne _ _ (by omega))).trans (hm_put_ne _ _ _ _ hb1)
  have e1 : I2 (q + 1) = upd (I (q + 1)) i 1 := ((hs (q + 1) (by omega)).2.trans (va_up_ne _ _ (by omega))).trans (hm_put_self _ _ _ _)
  refine ⟨fun b hb => ⟨?_, ?_⟩, ?_, fun k => ?_, ?_, ?_, va_up_self _ _ _, fun s hs1 => ⟨?_, ?_, ?_⟩, fun k => ?_⟩
  · rw [va_up_ne _ _ (by omega), es b (by omega)]; exact (h1 b hb).1
  · rw [ei b (by omega) (by omega)]; exact (h1 b hb).2
  · rw [va_up_ne _ _ (by omega), es q (by omega)]; exact h2
  · rw [ei q (by omega) (by omega)]; exact h3 k
  · rw [va_up_ne _ _ (by omega), es _ (by omega)]; exact h5
  · rw [va_up_ne _ _ (by omega), es _ (by omega)]; exact h6
  · by_cases hsi : s = i
    · rw [hsi]; exact HF_cong hF (fun b hb1 hb2 => va_up_ne _ _ (by omega))
    · exact HF_cong (h8 s (by omega)).1 (fun b hb1 hb2 => (va_up_ne _ _ (by omega)).trans (es b (by omega)))
  · by_cases hsi : s = i
    · rw [hsi]; exact h4
    · rw [ei _ (by omega) (by omega)]; exact (h8 s (by omega)).2.1
  · rw [e1]
    by_cases hsi : s = i
    · rw [hsi]; simp [upd]
    · simp only [upd, if_neg hsi]; exact (h8 s (by omega)).2.2
  · rw [ei _ (by omega) (by omega)]; exact h9 k
theorem Q3_s {Sh0 : hm_S} {I0 : hm_I} {q i : Nat} {Sh Sh2 : hm_S} {I I2 : hm_I} {K : hm_K} (h : Q3 Sh0 I0 q i Sh I) (hs : smB Sh2 (va_up Sh (q + 48 + 3 * i) K) I2 (va_up I (q + 48 + 3 * i) (fun _ => 0)) (q + 48 + 3 * i)) (hF : HO Sh2 (q + 48 + 3 * i)) (h4 : ∀ k, I2 (q + 48 + 3 * i + 1) k = 0 ∧ I2 (q + 48 + 3 * i + 2) k = 0) : Q3 Sh0 I0 q (i + 1) (va_up Sh2 (q + 47) (kR 1 10 (fE q (i + 1)))) I2 := by
  obtain ⟨h1, h2, h3, h5, h6, h7, h8, h9, h10, h11, h12, h13⟩ := h
  have es : ∀ b, b < q + 48 + 3 * i → Sh2 b = Sh b := fun b hb => (hs b hb).1.trans (va_up_ne _ _ (by omega))
  have ei : ∀ b, b < q + 48 + 3 * i → I2 b = I b := fun b hb => (hs b hb).2.trans (va_up_ne _ _ (by omega))
  refine ⟨fun b hb => ⟨?_, ?_⟩, ?_, fun k => ?_, ?_, ?_, ?_, fun s hs1 => ⟨?_, ?_, ?_⟩, fun k => ?_, ?_, fun k => ?_, va_up_self _ _ _, fun e he => ⟨?_, fun k => ?_⟩⟩
  · rw [va_up_ne _ _ (by omega), es b (by omega)]; exact (h1 b hb).1
  · rw [ei b (by omega)]; exact (h1 b hb).2
  · rw [va_up_ne _ _ (by omega), es q (by omega)]; exact h2
  · rw [ei q (by omega)]; exact h3 k
  · rw [va_up_ne _ _ (by omega), es _ (by omega)]; exact h5
  · rw [va_up_ne _ _ (by omega), es _ (by omega)]; exact h6
  · rw [va_up_ne _ _ (by omega), es _ (by omega)]; exact h7
  · exact HF_cong (h8 s hs1).1 (fun b hb1 hb2 => (va_up_ne _ _ (by omega)).trans (es b (by omega)))
  · rw [ei _ (by omega)]; exact (h8 s hs1).2.1
  · rw [ei _ (by omega)]; exact (h8 s hs1).2.2
  · rw [ei _ (by omega)]; exact h9 k
  · exact HO_cong h10 (fun b hb1 hb2 => (va_up_ne _ _ (by omega)).trans (es b (by omega)))
  · rw [ei _ (by omega), ei _ (by omega)]; exact h11 k
  · by_cases hsi : e = i
    · rw [hsi]; exact HO_cong hF (fun b hb1 hb2 => va_up_ne _ _ (by omega))
    · exact HO_cong (h13 e (by omega)).1 (fun b hb1 hb2 => (va_up_ne _ _ (by omega)).trans (es b (by omega)))
  · by_cases hsi : e = i
    · rw [hsi]; exact h4 k
    · rw [ei _ (by omega), ei _ (by omega)]; exact (h13 e (by omega)).2 k
theorem uX2_init_X2 : ∀ w ∈ wsX20, w ∈ wsX2_init := fun w h => List.mem_cons_of_mem _ (List.mem_append_left _ (List.mem_append_left _ (List.mem_append_right _ h)))
theorem uX2_init_X0 : ∀ w ∈ wsX00, w ∈ wsX2_init := fun w h => List.mem_cons_of_mem _ (List.mem_append_left _ (List.mem_append_right _ h))
theorem uX2_init_X1 : ∀ w ∈ wsX10, w ∈ wsX2_init := fun w h => List.mem_cons_of_mem _ (List.mem_append_right _ h)
set_option maxHeartbeats 4000000 in
set_option maxRecDepth 100000 in
theorem ctX2_init {l : Launch} {D : va_G} {T : Nat → ClassId} {A : Nat → Prop} {B : Nat} {Sh : hm_S} {I : hm_I} {J : hm_J} {q : Nat} (hB : B ≤ q) (hA : ∀ q, B ≤ q → A q) (hs : Sh q = kO 2 [none, some none, some none, some none, some none, some none, none, none, none, some none]) (hI : ∀ k, I q k = 0) :
    Ct l yX2_init wsX2_init { frames := 2, cells := 82, slots := 629, locals := 35 } (82) (629) D T A [.ref q] (fun H => hm D T (rg B (q + 1)) A Sh I J H ∧ H.size = q + 1) none (fun H => ∃ (Sh1 : hm_S) (I1 : hm_I), (hm D T (rg B (q + 83)) A Sh1 I1 J H ∧ H.size = q + 83) ∧ smB Sh1 Sh I1 I q ∧ HS Sh1 q ∧ ZS I1 q) := by
  refine Ct.ofW (cc := cX2_init) (maxL := 2) (ret := none) (by decide) rfl (Nat.le_of_ble_eq_true rfl) ?_
  intro p_ e_ s_ m_ args_ below_ meth_ c_ ls R Qq hR hQ0 C0 hr hlk hname hP hl
  obtain ⟨hM, hz⟩ := hP
  have hz0 := hz
  have hx := C0.1.1
  have hb := C0.1.2.1
  have hS : va_S A s_.heap s_.heap [] := va_S.rf
  have hl : lv_has ls 2 [(0, .ref q)] := hl
  refine lv_aload_n hx hb dX2_init_0 rfl (lv_at hl 0 rfl) ?_
  refine W.objInit hx hb C0.1.2.2.2.1 (C0.1.2.2.2.2 _ (List.mem_of_getElem? (i := 1) rfl)) (C0.1.2.2.2.2 _ (List.mem_of_getElem? (i := 2) rfl)) (C0.1.2.2.2.2 _ (List.mem_of_getElem? (i := 3) rfl)) rfl (hl.1.trans C0.1.2.2.1.symm) rfl dX2_init_1 (by rw [hR]; exact Nat.le_of_ble_eq_true rfl) (by rw [hR]; exact Nat.le_of_ble_eq_true rfl) ?_
  refine W.eq (g2 := F0 m_ 4 ls []) rfl ?_
  refine lv_aload_n hx hb dX2_init_4 rfl (lv_at hl 0 rfl) ?_
  refine lv_iconst (v := 0) hx hb dX2_init_5 (by decide) ?_
  refine mr_puti (TT := TX2) (N := 10) (ci := 2) C0 uX2_init_X2 tyX2 tyX2_ok nmX2 hM hS (rg_in (by omega) (by omega)) (fs := [none, some none, some none, some none, some none, some none, none, none, none, some none]) hs rfl 0 (by decide) rfl (List.mem_of_getElem? (i := 4) rfl) rfl rfl (by decide +kernel) dX2_init_6 (fun H locs hM1 hS1 => ?_)
  clear hM hS hz
  have hM := hM1
  have hS := hS1
  clear hM1 hS1
  have hz := hz0
  have hM1 := hM
  clear hM
  obtain ⟨mI1, emI1⟩ : ∃ f : hm_I, f = hm_put I (q) 0 (0) := ⟨_, rfl⟩
  have hM : hm D T (rg B (q + 1)) A Sh mI1 J H := by rw [emI1]; exact hM1
  clear hM1
  refine mz_sz fun hsz => ?_
  clear hz
  have hz : H.size = q + 1 := mz_size hM (by omega) (by omega) hsz
  clear hsz
  refine lv_aload_n hx hb dX2_init_9 rfl (lv_at hl 0 rfl) ?_
  refine lv_bipush (v := nI 8) hx hb dX2_init_10 (by decide) ?_
  refine mz_newI (n := 8) C0 (List.mem_of_getElem? (i := 5) rfl) hM hz (by omega) hS hA (by omega) (by rw [hR]; show _ ≤ 82; omega) (by rw [hR]; show _ ≤ 629; omega) dX2_init_12 (fun H hM1 hS1 hz1 => ?_)
  clear hM hS hz
  have hM := hM1
  have hS := hS1
  clear hM1 hS1
  have hz := hz1
  clear hz1
  have hM1 := hM
  clear hM
  obtain ⟨mS2, emS2⟩ : ∃ f : hm_S, f = va_up Sh (q + 1) (kI 8) := ⟨_, rfl⟩
  have hbmS2 : mS2 (q) = kO 2 [none, some none, some none, some none, some none, some none, none, none, none, some none] := by rw [emS2]; simp (disch := omega) only [va_up_self, va_up_ne, hs]
  obtain ⟨mI2, emI2⟩ : ∃ f : hm_I, f = va_up mI1 (q + 1) (fun _ => 0) := ⟨_, rfl⟩
  have hM : hm D T (rg B (q + 2)) A mS2 mI2 J H := by rw [emS2, emI2]; exact hM1
  clear hM1
  have hz1 := hz
  clear hz
  have hz : H.size = q + 2 := hz1
  clear hz1
  refine mr_putF (TT := TX2) (N := 10) (ci := 2) C0 uX2_init_X2 tyX2 tyX2_ok nmX2 hM hS (rg_in (by omega) (by omega)) (fs := [none, some none, some none, some none, some none, some none, none, none, none, some none]) hbmS2 rfl 1 (by decide) (v0 := none) rfl (v := q + 1) (List.mem_of_getElem? (i := 6) rfl) rfl rfl rfl hname (ty := .array .int) (by decide +kernel) rfl rfl dX2_init_14 (fun H locs hM1 hS1 => ?_)
  clear hM hS hz
  have hM := hM1
  have hS := hS1
  clear hM1 hS1
  have hz := hz0
  have hM1 := hM
  clear hM
  obtain ⟨mS3, emS3⟩ : ∃ f : hm_S, f = va_up mS2 (q) (kO 2 [none, some (some (q + 1)), some none, some none, some none, some none, none, none, none, some none]) := ⟨_, rfl⟩
  have hbmS3 : mS3 (q) = kO 2 [none, some (some (q + 1)), some none, some none, some none, some none, none, none, none, some none] := by rw [emS3]; simp (disch := omega) only [va_up_self, va_up_ne, hbmS2]
  have hM : hm D T (rg B (q + 2)) A mS3 mI2 J H := by rw [emS3]; exact hM1
  clear hM1
  refine mz_sz fun hsz => ?_
  clear hz
  have hz : H.size = q + 2 := mz_size hM (by omega) (by omega) hsz
  clear hsz
  refine lv_aload_n hx hb dX2_init_17 rfl (lv_at hl 0 rfl) ?_
  refine lv_bipush (v := nI 8) hx hb dX2_init_18 (by decide) ?_
  refine mz_newI (n := 8) C0 (List.mem_of_getElem? (i := 5) rfl) hM hz (by omega) hS hA (by omega) (by rw [hR]; show _ ≤ 82; omega) (by rw [hR]; show _ ≤ 629; omega) dX2_init_20 (fun H hM1 hS1 hz1 => ?_)
  clear hM hS hz
  have hM := hM1
  have hS := hS1
  clear hM1 hS1
  have hz := hz1
  clear hz1
  have hM1 := hM
  clear hM
  obtain ⟨mS4, emS4⟩ : ∃ f : hm_S, f = va_up mS3 (q + 2) (kI 8) := ⟨_, rfl⟩
  have hbmS4 : mS4 (q) = kO 2 [none, some (some (q + 1)), some none, some none, some none, some none, none, none, none, some none] := by rw [emS4]; simp (disch := omega) only [va_up_self, va_up_ne, hbmS3]
  obtain ⟨mI4, emI4⟩ : ∃ f : hm_I, f = va_up mI2 (q + 2) (fun _ => 0) := ⟨_, rfl⟩
  have hM : hm D T (rg B (q + 3)) A mS4 mI4 J H := by rw [emS4, emI4]; exact hM1
  clear hM1
  have hz1 := hz
  clear hz
  have hz : H.size = q + 3 := hz1
  clear hz1
  refine mr_putF (TT := TX2) (N := 10) (ci := 2) C0 uX2_init_X2 tyX2 tyX2_ok nmX2 hM hS (rg_in (by omega) (by omega)) (fs := [none, some (some (q + 1)), some none, some none, some none, some none, none, none, none, some none]) hbmS4 rfl 2 (by decide) (v0 := none) rfl (v := q + 2) (List.mem_of_getElem? (i := 7) rfl) rfl rfl rfl hname (ty := .array .int) (by decide +kernel) rfl rfl dX2_init_22 (fun H locs hM1 hS1 => ?_)
  clear hM hS hz
  have hM := hM1
  have hS := hS1
  clear hM1 hS1
  have hz := hz0
  have hM1 := hM
  clear hM
  obtain ⟨mS5, emS5⟩ : ∃ f : hm_S, f = va_up mS4 (q) (kO 2 [none, some (some (q + 1)), some (some (q + 2)), some none, some none, some none, none, none, none, some none]) := ⟨_, rfl⟩
  have hbmS5 : mS5 (q) = kO 2 [none, some (some (q + 1)), some (some (q + 2)), some none, some none, some none, none, none, none, some none] := by rw [emS5]; simp (disch := omega) only [va_up_self, va_up_ne, hbmS4]
  have hM : hm D T (rg B (q + 3)) A mS5 mI4 J H := by rw [emS5]; exact hM1
  clear hM1
  refine mz_sz fun hsz => ?_
  clear hz
  have hz : H.size = q + 3 := mz_size hM (by omega) (by omega) hsz
  clear hsz
  refine lv_aload_n hx hb dX2_init_25 rfl (lv_at hl 0 rfl) ?_
  refine lv_bipush (v := nI 8) hx hb dX2_init_26 (by decide) ?_
  refine mz_newR (C := RX0) (t := 0) (n := 8) C0 rfl (List.mem_of_getElem? (i := 8) rfl) C0.2.2.2.2.2.2.2.2.2.1 hM hz (by omega) hS hA (by omega) (by rw [hR]; show _ ≤ 82; omega) (by rw [hR]; show _ ≤ 629; omega) dX2_init_28 (fun H hM1 hS1 hz1 => ?_)
  clear hM hS hz
  have hM := hM1
  have hS := hS1
  clear hM1 hS1
  have hz := hz1
  clear hz1
  have hM1 := hM
  clear hM
  obtain ⟨mS6, emS6⟩ : ∃ f : hm_S, f = va_up mS5 (q + 3) (kR 0 8 (fun _ => none)) := ⟨_, rfl⟩
  have hbmS6 : mS6 (q) = kO 2 [none, some (some (q + 1)), some (some (q + 2)), some none, some none, some none, none, none, none, some none] := by rw [emS6]; simp (disch := omega) only [va_up_self, va_up_ne, hbmS5]
  have hM : hm D T (rg B (q + 4)) A mS6 mI4 J H := by rw [emS6]; exact hM1
  clear hM1
  have hz1 := hz
  clear hz
  have hz : H.size = q + 4 := hz1
  clear hz1
  refine mr_putF (TT := TX2) (N := 10) (ci := 2) C0 uX2_init_X2 tyX2 tyX2_ok nmX2 hM hS (rg_in (by omega) (by omega)) (fs := [none, some (some (q + 1)), some (some (q + 2)), some none, some none, some none, none, none, none, some none]) hbmS6 rfl 3 (by decide) (v0 := none) rfl (v := q + 3) (List.mem_of_getElem? (i := 9) rfl) rfl rfl rfl hname (ty := .array (.object RX0)) (by decide +kernel) rfl rfl dX2_init_31 (fun H locs hM1 hS1 => ?_)
  clear hM hS hz
  have hM := hM1
  have hS := hS1
  clear hM1 hS1
  have hz := hz0
  have hM1 := hM
  clear hM
  obtain ⟨mS7, emS7⟩ : ∃ f : hm_S, f = va_up mS6 (q) (kO 2 [none, some (some (q + 1)), some (some (q + 2)), some (some (q + 3)), some none, some none, none, none, none, some none]) := ⟨_, rfl⟩
  have hbmS7 : mS7 (q) = kO 2 [none, some (some (q + 1)), some (some (q + 2)), some (some (q + 3)), some none, some none, none, none, none, some none] := by rw [emS7]; simp (disch := omega) only [va_up_self, va_up_ne, hbmS6]
  have hM : hm D T (rg B (q + 4)) A mS7 mI4 J H := by rw [emS7]; exact hM1
  clear hM1
  refine mz_sz fun hsz => ?_
  clear hz
  have hz : H.size = q + 4 := mz_size hM (by omega) (by omega) hsz
  clear hsz
  refine lv_iconst (v := nI 0) hx hb dX2_init_34 (by decide) ?_
  refine lv_istore_n (lv' := [(1, .int (nI 0)), (0, .ref q)]) hx hb dX2_init_35 rfl hl (by decide) rfl (fun ls hl => ?_)
  refine mz_cs (c2 := 3 + 5 * 0) (s2 := 24 + 29 * 0) (by omega) (by omega) ?_
  refine up_loop (P := fun i => ∀ (Sh1 : hm_S) (I1 : hm_I) (H : Heap) (locs : List Loc) (ls : Array Slot), hm D T (rg B (q + 4 + 5 * i)) A Sh1 I1 J H → H.size = q + 4 + 5 * i → Q1 Sh I q i Sh1 I1 → va_S A s_.heap H locs → lv_has ls 2 [(0, .ref q), (1, .int (nI i))] → W p_ l e_ R s_ m_ args_ below_ meth_ c_ H locs (3 + 5 * i) (24 + 29 * i) Qq (F0 m_ 36 ls [])) 8 (fun i hi kk Sh1 I1 H locs ls hM hz hQ hS hl => ?_) (fun Sh1 I1 H locs ls hM hz hQ hS hl => ?_) _ _ H locs ls hM hz ?_ hS (lv_sub hl [1, 0] rfl)
  · obtain ⟨h1, h2, h3, h5, h6, h7, h8, h9⟩ := id hQ
    refine lv_iload_n hx hb dX2_init_36 rfl (lv_at hl 1 rfl) ?_
    refine lv_bipush (v := nI 8) hx hb dX2_init_37 (by decide) ?_
    refine mr_geN (x := i) (y := 8) (tgt := 70) C0 dX2_init_39 (by decide) (by omega) (by omega) (fun c5 => absurd c5 (by omega)) (fun c5 => ?_)
    refine lv_aload_n hx hb dX2_init_42 rfl (lv_at hl 0 rfl) ?_
    refine mr_getr (r := q + 1) (TT := TX2) (N := 10) C0 uX2_init_X2 hM (rg_in (by omega) (by omega)) (fs := [none, some (some (q + 1)), some (some (q + 2)), some (some (q + 3)), some none, some none, none, none, none, some none]) h2 rfl 1 (by decide) rfl (List.mem_of_getElem? (i := 6) rfl) rfl dX2_init_43 ?_
    refine lv_iload_n hx hb dX2_init_46 rfl (lv_at hl 1 rfl) ?_
    refine lv_iconst (v := 1) hx hb dX2_init_47 (by decide) ?_
    refine mr_iastN (n := 8) C0 hM hS (rg_in (by omega) (by omega)) h5 (by omega) hi dX2_init_48 (fun H locs hM1 hS1 => ?_)
    clear hM hS hz
    have hM := hM1
    have hS := hS1
    clear hM1 hS1
    have hz := hz0
    have hM1 := hM
    clear hM
    obtain ⟨nI1, enI1⟩ : ∃ f : hm_I, f = hm_put I1 (q + 1) i 1 := ⟨_, rfl⟩
    have hM : hm D T (rg B (q + 4 + 5 * i)) A Sh1 nI1 J H := by rw [enI1]; exact hM1
    clear hM1
    refine mz_sz fun hsz => ?_
    clear hz
    have hz : H.size = q + 4 + 5 * i := mz_size hM (by omega) (by omega) hsz
    clear hsz
    refine lv_aload_n hx hb dX2_init_49 rfl (lv_at hl 0 rfl) ?_
    refine mr_getr (r := q + 3) (TT := TX2) (N := 10) C0 uX2_init_X2 hM (rg_in (by omega) (by omega)) (fs := [none, some (some (q + 1)), some (some (q + 2)), some (some (q + 3)), some none, some none, none, none, none, some none]) h2 rfl 3 (by decide) rfl (List.mem_of_getElem? (i := 9) rfl) rfl dX2_init_50 ?_
    refine lv_iload_n hx hb dX2_init_53 rfl (lv_at hl 1 rfl) ?_
    refine mz_newO (C := RX0) (TT := TX0) (N := 5) (ci := 0) (fs := [some none, some none, some none, some none, none]) C0 uX2_init_X0 tyX0 tyX0_ok (List.mem_of_getElem? (i := 8) rfl) (List.mem_of_getElem? (i := 10) rfl) (List.mem_of_getElem? (i := 11) rfl) hM hz (by omega) hS hA rfl (by decide) (by rw [hR]; show _ ≤ 82; omega) (by rw [hR]; show _ ≤ 629; omega) dX2_init_54 (fun H hM1 hS1 hz1 => ?_)
    clear hM hS hz
    have hM := hM1
    have hS := hS1
    clear hM1 hS1
    have hz := hz1
    clear hz1
    have hM1 := hM
    clear hM
    obtain ⟨nS2, enS2⟩ : ∃ f : hm_S, f = va_up Sh1 (q + 4 + 5 * i) (kO 0 [some none, some none, some none, some none, none]) := ⟨_, rfl⟩
    have hbnS2 : nS2 (q) = kO 2 [none, some (some (q + 1)), some (some (q + 2)), some (some (q + 3)), some none, some none, none, none, none, some none] := by rw [enS2]; simp (disch := omega) only [va_up_self, va_up_ne, h2]
    obtain ⟨nI2, enI2⟩ : ∃ f : hm_I, f = va_up nI1 (q + 4 + 5 * i) (fun _ => 0) := ⟨_, rfl⟩
    have hM : hm D T (rg B (q + 4 + 5 * i + 1)) A nS2 nI2 J H := by rw [enS2, enI2]; exact hM1
    clear hM1
    have hz1 := hz
    clear hz
    have hz : H.size = q + 4 + 5 * i + 1 := hz1
    clear hz1
    refine lv_dup hx hb dX2_init_57 rfl ?_
    refine lv_bipush (v := nI 6) hx hb dX2_init_58 (by decide) ?_
    refine mr_callI (As := [.int (nI 6)]) (rest := [.ref (q + 4 + 5 * i), .int (nI i), .ref (q + 3)]) C0 (ctX0_init (Sh := nS2) (I := nI2) (a := q + 4 + 5 * i) (n := 6) (by omega) (by omega) hA (by rw [enS2]; exact va_up_self _ _ _) (by rw [enI2, va_up_self])) (cwI 1 C0.1.2.2.2.2 ggX2_init_X0_init rfl rfl rfl (C0.1.2.2.2.2 _ (List.mem_of_getElem? (i := 11) rfl)) (C0.1.2.2.2.2 _ (List.mem_of_getElem? (i := 21) rfl)) (C0.1.2.2.2.2 _ (List.mem_of_getElem? (i := 22) rfl)) rfl (by decide +kernel) ⟨by rw [hR]; exact Nat.le_of_ble_eq_true rfl, by rw [hR]; exact Nat.le_of_ble_eq_true rfl⟩) ⟨hM, hz⟩ hS rfl rfl hl.1 (Nat.le_of_ble_eq_true rfl) dX2_init_60 ⟨by rw [hR]; show _ ≤ 82; omega, by rw [hR]; show _ ≤ 629; omega⟩ (fun H locs hP hS1 => ?_)
    clear hM hS hz
    have hS := hS1
    clear hS1
    obtain ⟨Sh2, I2, ⟨hM, hz⟩, hsm, hF, h4⟩ := hP
    rw [enS2, enI2, enI1] at hsm
    have h73 : Sh2 (q + 3) = kR 0 8 (fQ q i) := ((hsm (q + 3) (by omega)).1.trans (va_up_ne _ _ (by omega))).trans h7
    refine mr_aast (t := 0) (n := 8) (ci := 0) C0 hM hS (rg_in (by omega) (by omega)) h73 rfl (rg_in (by omega) (by omega)) hF.1 rfl (by omega) hi dX2_init_63 (fun H locs hM1 hS1 => ?_)
    clear hM hS hz
    have hM := hM1
    have hS := hS1
    clear hM1 hS1
    have hz := hz0
    rw [fQ_s] at hM
    have hM : hm D T (rg B (q + 4 + 5 * (i + 1))) A (va_up Sh2 (q + 3) (kR 0 8 (fQ q (i + 1)))) I2 J H := hM
    refine mz_sz fun hsz => ?_
    clear hz
    have hz : H.size = q + 4 + 5 * (i + 1) := mz_size hM (by omega) (by omega) hsz
    refine lv_iinc (v := nI (i + 1)) (lv' := [(1, .int (nI (i + 1))), (0, .ref q)]) hx hb dX2_init_64 hl (k := 1) rfl (nI_1 _) (by decide) rfl (fun ls hl => ?_)
    refine lv_goto (tgt := 36) hx hb dX2_init_67 (by decide) ?_
    exact mz_cs (by omega) (by omega) (kk _ _ H locs ls hM hz (Q1_s hQ hsm hF h4) hS (lv_sub hl [1, 0] rfl))
  · obtain ⟨h1, h2, h3, h5, h6, h7, h8, h9⟩ := id hQ
    refine lv_iload_n hx hb dX2_init_36 rfl (lv_at hl 1 rfl) ?_
    refine lv_bipush (v := nI 8) hx hb dX2_init_37 (by decide) ?_
    refine mr_geN (x := 8) (y := 8) (tgt := 70) C0 dX2_init_39 (by decide) (by omega) (by omega) (fun c5 => ?_) (fun c5 => absurd c5 (by omega))
    have hM1 := hM
    clear hM
    have hM : hm D T (rg B (q + 44)) A Sh1 I1 J H := hM1
    clear hM1
    have hz1 := hz
    clear hz
    have hz : H.size = q + 44 := hz1
    clear hz1
    refine lv_aload_n hx hb dX2_init_70 rfl (lv_at hl 0 rfl) ?_
    refine mz_newO (C := RX1) (TT := TX1) (N := 2) (ci := 1) (fs := [some none, some none]) C0 uX2_init_X1 tyX1 tyX1_ok (List.mem_of_getElem? (i := 12) rfl) (List.mem_of_getElem? (i := 13) rfl) (List.mem_of_getElem? (i := 14) rfl) hM hz (by omega) hS hA rfl (by decide) (by rw [hR]; show _ ≤ 82; omega) (by rw [hR]; show _ ≤ 629; omega) dX2_init_71 (fun H hM1 hS1 hz1 => ?_)
    clear hM hS hz
    have hM := hM1
    have hS := hS1
    clear hM1 hS1
    have hz := hz1
    clear hz1
    have hM1 := hM
    clear hM
    obtain ⟨oS2, eoS2⟩ : ∃ f : hm_S, f = va_up Sh1 (q + 44) (kO 1 [some none, some none]) := ⟨_, rfl⟩
    have hboS2 : oS2 (q) = kO 2 [none, some (some (q + 1)), some (some (q + 2)), some (some (q + 3)), some none, some none, none, none, none, some none] := by rw [eoS2]; simp (disch := omega) only [va_up_self, va_up_ne, h2]
    obtain ⟨oI2, eoI2⟩ : ∃ f : hm_I, f = va_up I1 (q + 44) (fun _ => 0) := ⟨_, rfl⟩
    have hM : hm D T (rg B (q + 45)) A oS2 oI2 J H := by rw [eoS2, eoI2]; exact hM1
    clear hM1
    have hz1 := hz
    clear hz
    have hz : H.size = q + 45 := hz1
    clear hz1
    refine lv_dup hx hb dX2_init_74 rfl ?_
    refine mr_callI (As := []) (rest := [.ref (q + 44), .ref q]) C0 (ctX1_init (Sh := oS2) (I := oI2) (a := q + 44) (by omega) hA (by rw [eoS2]; exact va_up_self _ _ _)) (cwI 0 C0.1.2.2.2.2 ggX2_init_X1_init rfl rfl rfl (C0.1.2.2.2.2 _ (List.mem_of_getElem? (i := 14) rfl)) (C0.1.2.2.2.2 _ (List.mem_of_getElem? (i := 34) rfl)) (C0.1.2.2.2.2 _ (List.mem_of_getElem? (i := 35) rfl)) rfl (by decide +kernel) ⟨by rw [hR]; exact Nat.le_of_ble_eq_true rfl, by rw [hR]; exact Nat.le_of_ble_eq_true rfl⟩) ⟨hM, hz⟩ hS rfl rfl hl.1 (Nat.le_of_ble_eq_true rfl) dX2_init_75 ⟨by rw [hR]; show _ ≤ 82; omega, by rw [hR]; show _ ≤ 629; omega⟩ (fun H locs hP hS1 => ?_)
    clear hM hS hz
    have hS := hS1
    clear hS1
    obtain ⟨Sh2, I2, ⟨hM, hz⟩, hsm, hO, h4⟩ := hP
    rw [eoS2, eoI2] at hsm
    have es : ∀ b, b < q + 44 → Sh2 b = Sh1 b := fun b hb => (hsm b hb).1.trans (va_up_ne _ _ (by omega))
    have ei : ∀ b, b < q + 44 → I2 b = I1 b := fun b hb => (hsm b hb).2.trans (va_up_ne _ _ (by omega))
    have hM1 := hM
    clear hM
    have hM : hm D T (rg B (q + 47)) A Sh2 I2 J H := hM1
    clear hM1
    have hz1 := hz
    clear hz
    have hz : H.size = q + 47 := hz1
    clear hz1
    have hb2 : Sh2 q = kO 2 [none, some (some (q + 1)), some (some (q + 2)), some (some (q + 3)), some none, some none, none, none, none, some none] := (es q (by omega)).trans h2
    refine mr_putF (TT := TX2) (N := 10) (ci := 2) C0 uX2_init_X2 tyX2 tyX2_ok nmX2 hM hS (rg_in (by omega) (by omega)) (fs := [none, some (some (q + 1)), some (some (q + 2)), some (some (q + 3)), some none, some none, none, none, none, some none]) hb2 rfl 4 (by decide) (v0 := none) rfl (v := q + 44) (List.mem_of_getElem? (i := 15) rfl) rfl rfl rfl hname (ty := .object RX1) (by decide +kernel) rfl rfl dX2_init_78 (fun H locs hM1 hS1 => ?_)
    clear hM hS hz
    have hM := hM1
    have hS := hS1
    clear hM1 hS1
    have hz := hz0
    have hM1 := hM
    clear hM
    obtain ⟨oS4, eoS4⟩ : ∃ f : hm_S, f = va_up Sh2 (q) (kO 2 [none, some (some (q + 1)), some (some (q + 2)), some (some (q + 3)), some (some (q + 44)), some none, none, none, none, some none]) := ⟨_, rfl⟩
    have hboS4 : oS4 (q) = kO 2 [none, some (some (q + 1)), some (some (q + 2)), some (some (q + 3)), some (some (q + 44)), some none, none, none, none, some none] := by rw [eoS4]; simp (disch := omega) only [va_up_self, va_up_ne, hb2]
    have hM : hm D T (rg B (q + 47)) A oS4 I2 J H := by rw [eoS4]; exact hM1
    clear hM1
    refine mz_sz fun hsz => ?_
    clear hz
    have hz : H.size = q + 47 := mz_size hM (by omega) (by omega) hsz
    clear hsz
    refine lv_aload_n hx hb dX2_init_81 rfl (lv_at hl 0 rfl) ?_
    refine lv_bipush (v := nI 10) hx hb dX2_init_82 (by decide) ?_
    refine mz_newR (C := RX1) (t := 1) (n := 10) C0 rfl (List.mem_of_getElem? (i := 12) rfl) C0.2.2.2.2.2.2.2.2.2.2.1 hM hz (by omega) hS hA (by omega) (by rw [hR]; show _ ≤ 82; omega) (by rw [hR]; show _ ≤ 629; omega) dX2_init_84 (fun H hM1 hS1 hz1 => ?_)
    clear hM hS hz
    have hM := hM1
    have hS := hS1
    clear hM1 hS1
    have hz := hz1
    clear hz1
    have hM1 := hM
    clear hM
    obtain ⟨oS5, eoS5⟩ : ∃ f : hm_S, f = va_up oS4 (q + 47) (kR 1 10 (fun _ => none)) := ⟨_, rfl⟩
    have hboS5 : oS5 (q) = kO 2 [none, some (some (q + 1)), some (some (q + 2)), some (some (q + 3)), some (some (q + 44)), some none, none, none, none, some none] := by rw [eoS5]; simp (disch := omega) only [va_up_self, va_up_ne, hboS4]
    have hM : hm D T (rg B (q + 48)) A oS5 I2 J H := by rw [eoS5]; exact hM1
    clear hM1
    have hz1 := hz
    clear hz
    have hz : H.size = q + 48 := hz1
    clear hz1
    refine mr_putF (TT := TX2) (N := 10) (ci := 2) C0 uX2_init_X2 tyX2 tyX2_ok nmX2 hM hS (rg_in (by omega) (by omega)) (fs := [none, some (some (q + 1)), some (some (q + 2)), some (some (q + 3)), some (some (q + 44)), some none, none, none, none, some none]) hboS5 rfl 5 (by decide) (v0 := none) rfl (v := q + 47) (List.mem_of_getElem? (i := 16) rfl) rfl rfl rfl hname (ty := .array (.object RX1)) (by decide +kernel) rfl rfl dX2_init_87 (fun H locs hM1 hS1 => ?_)
    clear hM hS hz
    have hM := hM1
    have hS := hS1
    clear hM1 hS1
    have hz := hz0
    have hM1 := hM
    clear hM
    obtain ⟨oS6, eoS6⟩ : ∃ f : hm_S, f = va_up oS5 (q) (kO 2 [none, some (some (q + 1)), some (some (q + 2)), some (some (q + 3)), some (some (q + 44)), some (some (q + 47)), none, none, none, some none]) := ⟨_, rfl⟩
    have hboS6 : oS6 (q) = kO 2 [none, some (some (q + 1)), some (some (q + 2)), some (some (q + 3)), some (some (q + 44)), some (some (q + 47)), none, none, none, some none] := by rw [eoS6]; simp (disch := omega) only [va_up_self, va_up_ne, hboS5]
    have hM : hm D T (rg B (q + 48)) A oS6 I2 J H := by rw [eoS6]; exact hM1
    clear hM1
    refine mz_sz fun hsz => ?_
    clear hz
    have hz : H.size = q + 48 := mz_size hM (by omega) (by omega) hsz
    clear hsz
    refine lv_iconst (v := nI 0) hx hb dX2_init_90 (by decide) ?_
    refine lv_istore_n (lv' := [(1, .int (nI 0)), (0, .ref q)]) hx hb dX2_init_91 rfl hl (by decide) rfl (fun ls hl => ?_)
    refine mz_cs (c2 := 47 + 3 * 0) (s2 := 284 + 18 * 0) (by omega) (by omega) ?_
    refine up_loop (P := fun i => ∀ (Sh1 : hm_S) (I1 : hm_I) (H : Heap) (locs : List Loc) (ls : Array Slot), hm D T (rg B (q + 48 + 3 * i)) A Sh1 I1 J H → H.size = q + 48 + 3 * i → Q3 Sh I q i Sh1 I1 → va_S A s_.heap H locs → lv_has ls 2 [(0, .ref q), (1, .int (nI i))] → W p_ l e_ R s_ m_ args_ below_ meth_ c_ H locs (47 + 3 * i) (284 + 18 * i) Qq (F0 m_ 92 ls [])) 10 (fun i hi kk Sh1 I1 H locs ls hM hz hQ hS hl => ?_) (fun Sh1 I1 H locs ls hM hz hQ hS hl => ?_) _ _ H locs ls hM hz ?_ hS (lv_sub hl [1, 0] rfl)
    · obtain ⟨h1, h2, h3, h5, h6, h7, h8, h9, h10, h11, h12, h13⟩ := id hQ
      refine lv_iload_n hx hb dX2_init_92 rfl (lv_at hl 1 rfl) ?_
      refine lv_bipush (v := nI 10) hx hb dX2_init_93 (by decide) ?_
      refine mr_geN (x := i) (y := 10) (tgt := 117) C0 dX2_init_95 (by decide) (by omega) (by omega) (fun c5 => absurd c5 (by omega)) (fun c5 => ?_)
      refine lv_aload_n hx hb dX2_init_98 rfl (lv_at hl 0 rfl) ?_
      refine mr_getr (r := q + 47) (TT := TX2) (N := 10) C0 uX2_init_X2 hM (rg_in (by omega) (by omega)) (fs := [none, some (some (q + 1)), some (some (q + 2)), some (some (q + 3)), some (some (q + 44)), some (some (q + 47)), none, none, none, some none]) h2 rfl 5 (by decide) rfl (List.mem_of_getElem? (i := 16) rfl) rfl dX2_init_99 ?_
      refine lv_iload_n hx hb dX2_init_102 rfl (lv_at hl 1 rfl) ?_
      refine mz_newO (C := RX1) (TT := TX1) (N := 2) (ci := 1) (fs := [some none, some none]) C0 uX2_init_X1 tyX1 tyX1_ok (List.mem_of_getElem? (i := 12) rfl) (List.mem_of_getElem? (i := 13) rfl) (List.mem_of_getElem? (i := 14) rfl) hM hz (by omega) hS hA rfl (by decide) (by rw [hR]; show _ ≤ 82; omega) (by rw [hR]; show _ ≤ 629; omega) dX2_init_103 (fun H hM1 hS1 hz1 => ?_)
      clear hM hS hz
      have hM := hM1
      have hS := hS1
      clear hM1 hS1
      have hz := hz1
      clear hz1
      have hM1 := hM
      clear hM
      obtain ⟨pS1, epS1⟩ : ∃ f : hm_S, f = va_up Sh1 (q + 48 + 3 * i) (kO 1 [some none, some none]) := ⟨_, rfl⟩
      have hbpS1 : pS1 (q) = kO 2 [none, some (some (q + 1)), some (some (q + 2)), some (some (q + 3)), some (some (q + 44)), some (some (q + 47)), none, none, none, some none] := by rw [epS1]; simp (disch := omega) only [va_up_self, va_up_ne, h2]
      obtain ⟨pI1, epI1⟩ : ∃ f : hm_I, f = va_up I1 (q + 48 + 3 * i) (fun _ => 0) := ⟨_, rfl⟩
      have hM : hm D T (rg B (q + 48 + 3 * i + 1)) A pS1 pI1 J H := by rw [epS1, epI1]; exact hM1
      clear hM1
      have hz1 := hz
      clear hz
      have hz : H.size = q + 48 + 3 * i + 1 := hz1
      clear hz1
      refine lv_dup hx hb dX2_init_106 rfl ?_
      refine mr_callI (As := []) (rest := [.ref (q + 48 + 3 * i), .int (nI i), .ref (q + 47)]) C0 (ctX1_init (Sh := pS1) (I := pI1) (a := q + 48 + 3 * i) (by omega) hA (by rw [epS1]; exact va_up_self _ _ _)) (cwI 0 C0.1.2.2.2.2 ggX2_init_X1_init rfl rfl rfl (C0.1.2.2.2.2 _ (List.mem_of_getElem? (i := 14) rfl)) (C0.1.2.2.2.2 _ (List.mem_of_getElem? (i := 34) rfl)) (C0.1.2.2.2.2 _ (List.mem_of_getElem? (i := 35) rfl)) rfl (by decide +kernel) ⟨by rw [hR]; exact Nat.le_of_ble_eq_true rfl, by rw [hR]; exact Nat.le_of_ble_eq_true rfl⟩) ⟨hM, hz⟩ hS rfl rfl hl.1 (Nat.le_of_ble_eq_true rfl) dX2_init_107 ⟨by rw [hR]; show _ ≤ 82; omega, by rw [hR]; show _ ≤ 629; omega⟩ (fun H locs hP hS1 => ?_)
      clear hM hS hz
      have hS := hS1
      clear hS1
      obtain ⟨Sh2, I2, ⟨hM, hz⟩, hsm, hF, h4⟩ := hP
      rw [epS1, epI1] at hsm
      have h73 : Sh2 (q + 47) = kR 1 10 (fE q i) := ((hsm (q + 47) (by omega)).1.trans (va_up_ne _ _ (by omega))).trans h12
      refine mr_aast (t := 1) (n := 10) (ci := 1) C0 hM hS (rg_in (by omega) (by omega)) h73 rfl (rg_in (by omega) (by omega)) hF.1 rfl (by omega) hi dX2_init_110 (fun H locs hM1 hS1 => ?_)
      clear hM hS hz
      have hM := hM1
      have hS := hS1
      clear hM1 hS1
      have hz := hz0
      rw [fE_s] at hM
      have hM : hm D T (rg B (q + 48 + 3 * (i + 1))) A (va_up Sh2 (q + 47) (kR 1 10 (fE q (i + 1)))) I2 J H := hM
      refine mz_sz fun hsz => ?_
      clear hz
      have hz : H.size = q + 48 + 3 * (i + 1) := mz_size hM (by omega) (by omega) hsz
      refine lv_iinc (v := nI (i + 1)) (lv' := [(1, .int (nI (i + 1))), (0, .ref q)]) hx hb dX2_init_111 hl (k := 1) rfl (nI_1 _) (by decide) rfl (fun ls hl => ?_)
      refine lv_goto (tgt := 92) hx hb dX2_init_114 (by decide) ?_
      exact mz_cs (by omega) (by omega) (kk _ _ H locs ls hM hz (Q3_s hQ hsm hF h4) hS (lv_sub hl [1, 0] rfl))
    · obtain ⟨h1, h2, h3, h5, h6, h7, h8, h9, h10, h11, h12, h13⟩ := id hQ
      refine lv_iload_n hx hb dX2_init_92 rfl (lv_at hl 1 rfl) ?_
      refine lv_bipush (v := nI 10) hx hb dX2_init_93 (by decide) ?_
      refine mr_geN (x := 10) (y := 10) (tgt := 117) C0 dX2_init_95 (by decide) (by omega) (by omega) (fun c5 => ?_) (fun c5 => absurd c5 (by omega))
      have hM1 := hM
      clear hM
      have hM : hm D T (rg B (q + 78)) A Sh1 I1 J H := hM1
      clear hM1
      have hz1 := hz
      clear hz
      have hz : H.size = q + 78 := hz1
      clear hz1
      refine lv_aload_n hx hb dX2_init_117 rfl (lv_at hl 0 rfl) ?_
      refine lv_iconst (v := 1) hx hb dX2_init_118 (by decide) ?_
      refine mr_puti (TT := TX2) (N := 10) (ci := 2) C0 uX2_init_X2 tyX2 tyX2_ok nmX2 hM hS (rg_in (by omega) (by omega)) (fs := [none, some (some (q + 1)), some (some (q + 2)), some (some (q + 3)), some (some (q + 44)), some (some (q + 47)), none, none, none, some none]) h2 rfl 6 (by decide) rfl (List.mem_of_getElem? (i := 17) rfl) rfl rfl (by decide +kernel) dX2_init_119 (fun H locs hM1 hS1 => ?_)
      clear hM hS hz
      have hM := hM1
      have hS := hS1
      clear hM1 hS1
      have hz := hz0
      have hM1 := hM
      clear hM
      obtain ⟨rI2, erI2⟩ : ∃ f : hm_I, f = hm_put I1 (q) 6 (1) := ⟨_, rfl⟩
      have hM : hm D T (rg B (q + 78)) A Sh1 rI2 J H := by rw [erI2]; exact hM1
      clear hM1
      refine lv_aload_n hx hb dX2_init_122 rfl (lv_at hl 0 rfl) ?_
      refine lv_iconst (v := 0) hx hb dX2_init_123 (by decide) ?_
      refine mr_puti (TT := TX2) (N := 10) (ci := 2) C0 uX2_init_X2 tyX2 tyX2_ok nmX2 hM hS (rg_in (by omega) (by omega)) (fs := [none, some (some (q + 1)), some (some (q + 2)), some (some (q + 3)), some (some (q + 44)), some (some (q + 47)), none, none, none, some none]) h2 rfl 7 (by decide) rfl (List.mem_of_getElem? (i := 18) rfl) rfl rfl (by decide +kernel) dX2_init_124 (fun H locs hM1 hS1 => ?_)
      clear hM hS hz
      have hM := hM1
      have hS := hS1
      clear hM1 hS1
      have hz := hz0
      have hM1 := hM
      clear hM
      obtain ⟨rI3, erI3⟩ : ∃ f : hm_I, f = hm_put rI2 (q) 7 (0) := ⟨_, rfl⟩
      have hM : hm D T (rg B (q + 78)) A Sh1 rI3 J H := by rw [erI3]; exact hM1
      clear hM1
      refine lv_aload_n hx hb dX2_init_127 rfl (lv_at hl 0 rfl) ?_
      refine lv_iconst (v := 0) hx hb dX2_init_128 (by decide) ?_
      refine mr_puti (TT := TX2) (N := 10) (ci := 2) C0 uX2_init_X2 tyX2 tyX2_ok nmX2 hM hS (rg_in (by omega) (by omega)) (fs := [none, some (some (q + 1)), some (some (q + 2)), some (some (q + 3)), some (some (q + 44)), some (some (q + 47)), none, none, none, some none]) h2 rfl 8 (by decide) rfl (List.mem_of_getElem? (i := 19) rfl) rfl rfl (by decide +kernel) dX2_init_129 (fun H locs hM1 hS1 => ?_)
      clear hM hS hz
      have hM := hM1
      have hS := hS1
      clear hM1 hS1
      have hz := hz0
      have hM1 := hM
      clear hM
      obtain ⟨rI4, erI4⟩ : ∃ f : hm_I, f = hm_put rI3 (q) 8 (0) := ⟨_, rfl⟩
      have hM : hm D T (rg B (q + 78)) A Sh1 rI4 J H := by rw [erI4]; exact hM1
      clear hM1
      refine mz_sz fun hsz => ?_
      clear hz
      have hz : H.size = q + 78 := mz_size hM (by omega) (by omega) hsz
      clear hsz
      refine lv_aload_n hx hb dX2_init_132 rfl (lv_at hl 0 rfl) ?_
      refine mz_newO (C := RX0) (TT := TX0) (N := 5) (ci := 0) (fs := [some none, some none, some none, some none, none]) C0 uX2_init_X0 tyX0 tyX0_ok (List.mem_of_getElem? (i := 8) rfl) (List.mem_of_getElem? (i := 10) rfl) (List.mem_of_getElem? (i := 11) rfl) hM hz (by omega) hS hA rfl (by decide) (by rw [hR]; show _ ≤ 82; omega) (by rw [hR]; show _ ≤ 629; omega) dX2_init_133 (fun H hM1 hS1 hz1 => ?_)
      clear hM hS hz
      have hM := hM1
      have hS := hS1
      clear hM1 hS1
      have hz := hz1
      clear hz1
      have hM1 := hM
      clear hM
      obtain ⟨rS5, erS5⟩ : ∃ f : hm_S, f = va_up Sh1 (q + 78) (kO 0 [some none, some none, some none, some none, none]) := ⟨_, rfl⟩
      have hbrS5 : rS5 (q) = kO 2 [none, some (some (q + 1)), some (some (q + 2)), some (some (q + 3)), some (some (q + 44)), some (some (q + 47)), none, none, none, some none] := by rw [erS5]; simp (disch := omega) only [va_up_self, va_up_ne, h2]
      obtain ⟨rI5, erI5⟩ : ∃ f : hm_I, f = va_up rI4 (q + 78) (fun _ => 0) := ⟨_, rfl⟩
      have hM : hm D T (rg B (q + 79)) A rS5 rI5 J H := by rw [erS5, erI5]; exact hM1
      clear hM1
      have hz1 := hz
      clear hz
      have hz : H.size = q + 79 := hz1
      clear hz1
      refine lv_dup hx hb dX2_init_136 rfl ?_
      refine lv_bipush (v := nI 40) hx hb dX2_init_137 (by decide) ?_
      refine mr_callI (As := [.int (nI 40)]) (rest := [.ref (q + 78), .ref q]) C0 (ctX0_init (Sh := rS5) (I := rI5) (a := q + 78) (n := 40) (by omega) (by omega) hA (by rw [erS5]; exact va_up_self _ _ _) (by rw [erI5, va_up_self])) (cwI 1 C0.1.2.2.2.2 ggX2_init_X0_init rfl rfl rfl (C0.1.2.2.2.2 _ (List.mem_of_getElem? (i := 11) rfl)) (C0.1.2.2.2.2 _ (List.mem_of_getElem? (i := 21) rfl)) (C0.1.2.2.2.2 _ (List.mem_of_getElem? (i := 22) rfl)) rfl (by decide +kernel) ⟨by rw [hR]; exact Nat.le_of_ble_eq_true rfl, by rw [hR]; exact Nat.le_of_ble_eq_true rfl⟩) ⟨hM, hz⟩ hS rfl rfl hl.1 (Nat.le_of_ble_eq_true rfl) dX2_init_139 ⟨by rw [hR]; show _ ≤ 82; omega, by rw [hR]; show _ ≤ 629; omega⟩ (fun H locs hP hS1 => ?_)
      clear hM hS hz
      have hS := hS1
      clear hS1
      obtain ⟨Sh2, I2, ⟨hM, hz⟩, hsm, hF, h4⟩ := hP
      rw [erS5, erI5, erI4, erI3, erI2] at hsm
      have es : ∀ b, b < q + 78 → Sh2 b = Sh1 b := fun b hb => (hsm b hb).1.trans (va_up_ne _ _ (by omega))
      have ei : ∀ b, b < q + 78 → I2 b = (hm_put (hm_put (hm_put I1 q 6 1) q 7 0) q 8 0) b := fun b hb => (hsm b hb).2.trans (va_up_ne _ _ (by omega))
      have ej : ∀ b, b < q + 78 → b ≠ q → I2 b = I1 b := fun b hb hne => (ei b hb).trans (((hm_put_ne _ _ _ _ hne).trans (hm_put_ne _ _ _ _ hne)).trans (hm_put_ne _ _ _ _ hne))
      have hM1 := hM
      clear hM
      have hM : hm D T (rg B (q + 83)) A Sh2 I2 J H := hM1
      clear hM1
      have hz1 := hz
      clear hz
      have hz : H.size = q + 83 := hz1
      clear hz1
      have hb2 : Sh2 q = kO 2 [none, some (some (q + 1)), some (some (q + 2)), some (some (q + 3)), some (some (q + 44)), some (some (q + 47)), none, none, none, some none] := (es q (by omega)).trans h2
      refine mr_putF (TT := TX2) (N := 10) (ci := 2) C0 uX2_init_X2 tyX2 tyX2_ok nmX2 hM hS (rg_in (by omega) (by omega)) (fs := [none, some (some (q + 1)), some (some (q + 2)), some (some (q + 3)), some (some (q + 44)), some (some (q + 47)), none, none, none, some none]) hb2 rfl 9 (by decide) (v0 := none) rfl (v := q + 78) (List.mem_of_getElem? (i := 20) rfl) rfl rfl rfl hname (ty := .object RX0) (by decide +kernel) rfl rfl dX2_init_142 (fun H locs hM1 hS1 => ?_)
      clear hM hS hz
      have hM := hM1
      have hS := hS1
      clear hM1 hS1
      have hz := hz0
      have hM1 := hM
      clear hM
      obtain ⟨rS7, erS7⟩ : ∃ f : hm_S, f = va_up Sh2 (q) (kO 2 [none, some (some (q + 1)), some (some (q + 2)), some (some (q + 3)), some (some (q + 44)), some (some (q + 47)), none, none, none, some (some (q + 78))]) := ⟨_, rfl⟩
      have hbrS7 : rS7 (q) = kO 2 [none, some (some (q + 1)), some (some (q + 2)), some (some (q + 3)), some (some (q + 44)), some (some (q + 47)), none, none, none, some (some (q + 78))] := by rw [erS7]; simp (disch := omega) only [va_up_self, va_up_ne, hb2]
      have hM : hm D T (rg B (q + 83)) A rS7 I2 J H := by rw [erS7]; exact hM1
      clear hM1
      refine mz_sz fun hsz => ?_
      clear hz
      have hz : H.size = q + 83 := mz_size hM (by omega) (by omega) hsz
      clear hsz
      rw [erS7] at hM
      have hM := hm_reR (f' := fun e => some (q + 48 + 3 * e)) hM (a := q + 47) (rg_in (by omega) (by omega)) ((va_up_ne _ _ (by omega)).trans ((es _ (by omega)).trans h12)) (fun j hj => if_pos hj)
      have hM := hm_reR (f' := fun e => some (q + 4 + 5 * e)) hM (a := q + 3) (rg_in (by omega) (by omega)) ((va_up_ne _ _ (by omega)).trans ((va_up_ne _ _ (by omega)).trans ((es _ (by omega)).trans h7))) (fun j hj => if_pos hj)
      refine mz_cs (c2 := 82) (s2 := 629) (by omega) (by omega) ?_
      have eS : ∀ b, b < q + 78 → b ≠ q → b ≠ q + 3 → b ≠ q + 47 → va_up (va_up (va_up Sh2 q (kO 2 [none, some (some (q + 1)), some (some (q + 2)), some (some (q + 3)), some (some (q + 44)), some (some (q + 47)), none, none, none, some (some (q + 78))])) (q + 47) (kR 1 10 (fun e => some (q + 48 + 3 * e)))) (q + 3) (kR 0 8 (fun e => some (q + 4 + 5 * e))) b = Sh1 b := fun b hb n1 n2 n3 => (va_up_ne _ _ n2).trans ((va_up_ne _ _ n3).trans ((va_up_ne _ _ n1).trans (es b hb)))
      refine mr_vret C0 hr hlk hQ0 hS rfl ⟨_, _, ⟨hM, hz⟩, fun b hb => ⟨?_, ?_⟩, ⟨?_, ?_, ?_, va_up_self _ _ _, fun s hs1 => ?_, ?_, ?_, fun e he => ?_, ?_⟩, ⟨⟨?_, ?_, ?_, ?_⟩, fun s hs1 => ?_, fun k => ?_, fun s hs1 => ?_, fun k => ?_, fun e he k => ?_, ?_⟩⟩ (Nat.le_refl _) (Nat.le_refl _) dX2_init_145
      · rw [eS b (by omega) (by omega) (by omega) (by omega)]; exact (h1 b hb).1
      · rw [ej b (by omega) (by omega)]; exact (h1 b hb).2
      · simp (disch := omega) only [va_up_self, va_up_ne]
      · rw [eS _ (by omega) (by omega) (by omega) (by omega)]; exact h5
      · rw [eS _ (by omega) (by omega) (by omega) (by omega)]; exact h6
      · exact HF_cong (h8 s hs1).1 (fun b hb1 hb2 => eS b (by omega) (by omega) (by omega) (by omega))
      · exact HO_cong h10 (fun b hb1 hb2 => eS b (by omega) (by omega) (by omega) (by omega))
      · simp (disch := omega) only [va_up_self, va_up_ne]
      · exact HO_cong (h13 e he).1 (fun b hb1 hb2 => eS b (by omega) (by omega) (by omega) (by omega))
      · exact HF_cong hF (fun b hb1 hb2 => by simp (disch := omega) only [va_up_self, va_up_ne])
      · rw [ei q (by omega), hm_put_self, hm_put_self, hm_put_self]; simp [upd]; exact h3 0
      · rw [ei q (by omega), hm_put_self, hm_put_self, hm_put_self]; simp [upd]
      · rw [ei q (by omega), hm_put_self, hm_put_self, hm_put_self]; simp [upd]
      · rw [ei q (by omega), hm_put_self, hm_put_self, hm_put_self]; simp [upd]
      · rw [ej _ (by omega) (by omega)]; exact (h8 s hs1).2.2
      · rw [ej _ (by omega) (by omega)]; exact h9 k
      · rw [ej _ (by omega) (by omega)]; exact (h8 s hs1).2.1
      · rw [ej _ (by omega) (by omega), ej _ (by omega) (by omega)]; exact h11 k
      · rw [ej _ (by omega) (by omega), ej _ (by omega) (by omega)]; exact (h13 e he).2 k
      · exact h4
    · refine ⟨fun b hb => ⟨?_, ?_⟩, ?_, fun k => ?_, ?_, ?_, ?_, fun s hs1 => ⟨?_, ?_, ?_⟩, fun k => ?_, ?_, fun k => ?_, ?_, fun e he => absurd he (Nat.not_lt_zero _)⟩
      · simp (disch := omega) only [va_up_self, va_up_ne, eoS6, eoS5, eoS4, es]; exact (h1 b hb).1
      · rw [ei b (by omega)]; exact (h1 b hb).2
      · simp (disch := omega) only [va_up_self, va_up_ne, eoS6, eoS5, eoS4]
      · rw [ei q (by omega)]; exact h3 k
      · simp (disch := omega) only [va_up_self, va_up_ne, eoS6, eoS5, eoS4, es]; exact h5
      · simp (disch := omega) only [va_up_self, va_up_ne, eoS6, eoS5, eoS4, es]; exact h6
      · simp (disch := omega) only [va_up_self, va_up_ne, eoS6, eoS5, eoS4, es]; exact h7
      · exact HF_cong (h8 s hs1).1 (fun b hb1 hb2 => by simp (disch := omega) only [va_up_self, va_up_ne, eoS6, eoS5, eoS4, es])
      · rw [ei _ (by omega)]; exact (h8 s hs1).2.1
      · rw [ei _ (by omega)]; exact (h8 s hs1).2.2
      · rw [ei _ (by omega)]; exact h9 k
      · exact HO_cong hO (fun b hb1 hb2 => by simp (disch := omega) only [va_up_self, va_up_ne, eoS6, eoS5, eoS4])
      · exact h4 k
      · simp (disch := omega) only [va_up_self, va_up_ne, eoS6, eoS5, eoS4]
        exact congrArg (kR 1 10) (funext fun s => (if_neg (Nat.not_lt_zero s)).symm)
  · refine ⟨fun b hb => ⟨?_, ?_⟩, ?_, fun k => ?_, ?_, ?_, ?_, fun s hs1 => absurd hs1 (Nat.not_lt_zero _), fun k => ?_⟩
    · simp (disch := omega) only [va_up_self, va_up_ne, emS7, emS6, emS5, emS4, emS3, emS2, emI4, emI2, emI1]
    · simp (disch := omega) only [va_up_self, va_up_ne, emS7, emS6, emS5, emS4, emS3, emS2, emI4, emI2, emI1, hm_put_ne]
    · simp (disch := omega) only [va_up_self, va_up_ne, emS7, emS6, emS5, emS4, emS3, emS2, emI4, emI2, emI1]
    · simp (disch := omega) only [va_up_self, va_up_ne, emS7, emS6, emS5, emS4, emS3, emS2, emI4, emI2, emI1, hm_put_self, upd, hI]; split <;> rfl
    · simp (disch := omega) only [va_up_self, va_up_ne, emS7, emS6, emS5, emS4, emS3, emS2, emI4, emI2, emI1]
    · simp (disch := omega) only [va_up_self, va_up_ne, emS7, emS6, emS5, emS4, emS3, emS2, emI4, emI2, emI1]
    · simp (disch := omega) only [va_up_self, va_up_ne, emS7, emS6, emS5, emS4, emS3, emS2, emI4, emI2, emI1]
      exact congrArg (kR 0 8) (funext fun s => (if_neg (Nat.not_lt_zero s)).symm)
    · simp (disch := omega) only [va_up_self, va_up_ne, emS7, emS6, emS5, emS4, emS3, emS2, emI4, emI2, emI1]
