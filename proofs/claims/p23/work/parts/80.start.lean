/-! part 80: the start: the tables, the empty memory, a new object -/
/-! part 51: the law's start: the tables, the empty memory, the new objects -/
def w00 : Nat → Int32 := fun _ => 0
theorem clo_00 : ∀ a, a < 8 → clo (fun _ => 0) a = 0 := by decide
theorem mk_00 (r : Nat) : mk w00 r = fun _ => 0 := rfl
theorem ord_00 (r : Nat) : OrdOk w00 r := ⟨fun a _ => ⟨rfl, (by decide : (0:Nat) < 256)⟩, fun a ha => by rw [mk_00, clo_00 a ha, Nat.zero_testBit]⟩
theorem good_00 (t : Nat) : Good w00 t := by
  have hc : ∀ s, cM w00 s = 0 := fun _ => rfl
  refine ⟨⟨fun s _ => ⟨rfl, Nat.zero_le 6⟩, fun s _ k hk => absurd hk (Nat.not_lt_zero k), rfl, Nat.zero_le 9, rfl, Nat.zero_le 40⟩, fun s _ => ⟨Or.inl rfl, fun _ => ⟨rfl, rfl, rfl⟩⟩, ⟨ord_00 176, fun e _ => ord_00 _⟩, fun s _ k hk => absurd hk (Nat.not_lt_zero _), ⟨0, rfl, Nat.zero_le t, fun s _ k hk => absurd hk (Nat.not_lt_zero k)⟩, fun s _ s' _ k hk => absurd hk (Nat.not_lt_zero k), fun s _ k hk => absurd hk (Nat.not_lt_zero k)⟩
theorem osM_00 : osM w00 = 0 := by decide
theorem rel_00 {I : hm_I} {q : Nat} (h : ZS I q) : Rel I q w00 := by
  obtain ⟨⟨z1, z2, z3, z4⟩, z5, z6, z7, z8, z9, z10⟩ := h
  refine ⟨⟨by rw [osM_00, z1]; rfl, fun s hs ho => absurd ho (by show ¬ (0 : Int32) = nI 1; decide)⟩, ⟨fun s hs => z7 s hs, fun s hs k hk => absurd hk (Nat.not_lt_zero k)⟩, ⟨fun a ha => ⟨(z8 a).1, ?_⟩, fun e he a ha => ⟨(z9 e (Nat.lt_of_le_of_lt he (by decide)) a).1, ?_⟩, z2⟩, ⟨z10, fun k hk => absurd hk (Nat.not_lt_zero k)⟩, z3, z4⟩
  · rw [mk_00, clo_00 a ha]; exact (z8 a).2
  · rw [mk_00, clo_00 a ha]; exact (z9 e (Nat.lt_of_le_of_lt he (by decide)) a).2
theorem IsF_of {L : List Nat} {Sh : hm_S} {a n : Nat} (h : HF Sh a n) (hn : n < 2 ^ 31) (hL : ∀ z, a ≤ z → z < a + 5 → z ∈ L) : IsF L Sh a n :=
  ⟨⟨hL _ (by omega) (by omega), h.1⟩, ⟨hL _ (by omega) (by omega), h.2.1⟩, ⟨hL _ (by omega) (by omega), h.2.2.1⟩, ⟨hL _ (by omega) (by omega), h.2.2.2.1⟩, ⟨hL _ (by omega) (by omega), h.2.2.2.2⟩, hn⟩
theorem IsO_of {L : List Nat} {Sh : hm_S} {a : Nat} (h : HO Sh a) (hL : ∀ z, a ≤ z → z < a + 3 → z ∈ L) : IsO L Sh a :=
  ⟨⟨hL _ (by omega) (by omega), h.1⟩, ⟨hL _ (by omega) (by omega), h.2.1⟩, ⟨hL _ (by omega) (by omega), h.2.2⟩⟩
theorem IsS_of {L : List Nat} {Sh : hm_S} {q : Nat} (h : HS Sh q) (hL : ∀ z, q ≤ z → z < q + 83 → z ∈ L) : IsS L Sh q := by
  obtain ⟨h1, h2, h3, h4, h5, h6, h7, h8, h9⟩ := h
  exact ⟨⟨hL _ (by omega) (by omega), h1⟩, ⟨hL _ (by omega) (by omega), h2⟩, ⟨hL _ (by omega) (by omega), h3⟩, ⟨hL _ (by omega) (by omega), h4⟩, fun s hs => IsF_of (h5 s hs) (by decide) (fun z z1 z2 => hL z (by omega) (by omega)), IsO_of h6 (fun z z1 z2 => hL z (by omega) (by omega)), ⟨hL _ (by omega) (by omega), h7⟩, fun e he => IsO_of (h8 e he) (fun z z1 z2 => hL z (by omega) (by omega)), IsF_of h9 (by decide) (fun z z1 z2 => hL z (by omega) (by omega))⟩
def ftH (x i : Nat) : Nat := x + 168 + 83 * i
def ftI (x i : Nat) : Nat := x + 833 + 83 * i
theorem hm_nil {D : va_G} {T : Nat → ClassId} {z : Nat} {A : Nat → Prop} {Sh : hm_S} {I : hm_I} {J : hm_J} {H : Heap} : hm D T (rg z z) A Sh I J H := by
  have e : rg z z = [] := by unfold rg; rw [Nat.sub_self]; rfl
  unfold hm
  rw [e]
  exact ⟨fun k q h => by simp [va_pl] at h, ⟨fun i j p q h => by simp [va_pl] at h, fun k q h => by simp [va_pl] at h⟩⟩
theorem arr_known {ty : FieldType} {A : Array Value} {s : State} (h : (Cond.arrayClass ty).before A s = true) (hn : ∀ C, ty ≠ .object C) : ∃ cA : ClassId, ArrOfT s cA ty ∧ va_RA s cA ty := by
  obtain ⟨c, k, comp, h1, h2, h3⟩ := Cond.arrayClass_spec h
  refine ⟨c, fun n z => ⟨(fun k h => by cases h), k, h2, comp, h3⟩, ?_⟩
  cases ty with
  | object C => exact absurd rfl (hn C)
  | _ => exact h1
theorem ref_known {C : String} {A : Array Value} {s : State} (h : (Cond.arrayOver (.object C)).before A s = true) : ∃ cA : ClassId, ArrOfT s cA (.object C) ∧ va_RA s cA (.object C) := by
  obtain ⟨comp, c, k, h1, h2, h3, h4, h5⟩ := Cond.arrayOver_spec h
  exact ⟨c, fun n z => ⟨(fun k h => by cases h), k, h3, comp, h4⟩, k, comp, h3, h4, h1, h5⟩
theorem r1_in : ∀ w ∈ wsL_law_r1, w ∈ wsL_law := fun w h => List.mem_append_left _ (List.mem_append_left _ (List.mem_append_left _ (List.mem_append_left _ (List.mem_append_left _ (List.mem_append_left _ h)))))
theorem r2_in : ∀ w ∈ wsL_law_r2, w ∈ wsL_law := fun w h => List.mem_append_left _ (List.mem_append_left _ (List.mem_append_left _ (List.mem_append_left _ (List.mem_append_left _ (List.mem_append_right _ (List.mem_append_left _ h))))))
theorem x3_in : ∀ w ∈ wsX30, w ∈ wsL_law := inlX3
theorem kx_start {A : Array Value} {s : State} (hts : ∀ w ∈ lw_tbl, w.before A s = true) : ∃ (D : va_G) (T : Nat → ClassId), Kx D T s := by
  have hL : ∀ w ∈ wsL_law, w.before A s = true := fun w h => hts w (wsL_law_in w h)
  obtain ⟨c0, i0, k0⟩ := u_known (C := RX0) (T := TX0) (N := 5) (n := 5) hts inX0 (hL _ (r2_in _ (List.mem_of_getElem? (i := 7) rfl)))
  obtain ⟨c1, i1, k1⟩ := u_known (C := RX1) (T := TX1) (N := 2) (n := 2) hts inX1 (hL _ (r2_in _ (List.mem_of_getElem? (i := 10) rfl)))
  obtain ⟨c2, i2, k2⟩ := u_known (C := RX2) (T := TX2) (N := 10) (n := 10) hts inX2 (hL _ (r1_in _ (List.mem_of_getElem? (i := 10) rfl)))
  obtain ⟨c3, i3, k3⟩ := u_known (C := RX3) (T := TX3) (N := 7) (n := 7) hts inX3 (hL _ (r1_in _ (List.mem_of_getElem? (i := 1) rfl)))
  obtain ⟨t0, a0, b0⟩ := arr_known (hts _ ac_int) (fun C h => by cases h)
  obtain ⟨t1, a1, b1⟩ := arr_known (hts _ ac_boolean) (fun C h => by cases h)
  obtain ⟨t2, a2, b2⟩ := arr_known (hts _ ac_long) (fun C h => by cases h)
  obtain ⟨t3, a3, b3⟩ := ref_known (hts _ ao_RX0)
  obtain ⟨t4, a4, b4⟩ := ref_known (hts _ ao_RX1)
  obtain ⟨t5, a5, b5⟩ := ref_known (hts _ ao_RX2)
  refine ⟨(fun k => match k with | 0 => c0 | 1 => c1 | 2 => c2 | _ => c3, fun k => match k with | 0 => i0 | 1 => i1 | 2 => i2 | _ => i3), (fun k => match k with | 0 => t0 | 1 => t1 | 2 => t2 | 3 => t3 | 4 => t4 | _ => t5), ⟨fun k q hq => ?_, fun k q hq => ?_⟩, va_Nw.of rfl (hts _ nw_RX1_18), va_Nw.of rfl (hts _ nw_RX1_22), va_Nw.of rfl (hts _ nw_RX1_26), va_Nw.of rfl (hts _ nw_RX1_29), va_Nw.of rfl (hts _ nw_RX2_62), va_Nw.of rfl (hts _ nw_RX2_66), va_Nw.of rfl (hts _ nw_RX2_70), va_AO.of (hts _ ao_RX0), va_AO.of (hts _ ao_RX1), va_AO.of (hts _ ao_RX2)⟩
  · match k, hq with
    | 0, hq => cases hq; exact k0
    | 1, hq => cases hq; exact k1
    | 2, hq => cases hq; exact k2
    | 3, hq => cases hq; exact k3
    | k + 4, hq => simp [vwCl] at hq
  · match k, hq with
    | 0, hq => cases hq; exact ⟨a0, b0⟩
    | 1, hq => cases hq; exact ⟨a1, b1⟩
    | 2, hq => cases hq; exact ⟨a2, b2⟩
    | 3, hq => cases hq; exact ⟨a3, b3⟩
    | 4, hq => cases hq; exact ⟨a4, b4⟩
    | 5, hq => cases hq; exact ⟨a5, b5⟩
    | k + 6, hq => simp [hm_tys] at hq
/-- a new object -/
theorem inv_x0 {Sh1 : hm_S} {I1 : hm_I} {x : Nat} (h : X3P Sh1 I1 x) : InvX (rg x (x + 1001)) x 0 Sh1 I1 (0, w00, (fun _ => w00), (fun _ => w00), fun _ => false) := by
  obtain ⟨h1, h2, ⟨h3, h4⟩, ⟨h5, h6⟩, h7, h8, h9, h10, h11, h12, h13⟩ := h
  have hL : ∀ z, x ≤ z → z < x + 1001 → z ∈ rg x (x + 1001) := fun z z1 z2 => rg_in z1 z2
  have hS : ∀ q, x ≤ q → q + 83 ≤ x + 1001 → HS Sh1 q → IsS (rg x (x + 1001)) Sh1 q := fun q q1 q2 hq => IsS_of hq (fun z z1 z2 => hL z (by omega) (by omega))
  refine ⟨x + 1, x + 84, x + 167, x + 832, x + 999, x + 1000, ftH x, ftI x, ⟨⟨hL _ (by omega) (by omega), h1⟩, hS _ (by omega) (by omega) h3, hS _ (by omega) (by omega) h5, ⟨hL _ (by omega) (by omega), h7⟩, fun i hi => hS (x + 168 + 83 * i) (by omega) (by omega) (h8 i hi).1, ⟨hL _ (by omega) (by omega), h9⟩, fun i hi => hS (x + 833 + 83 * i) (by omega) (by omega) (h10 i hi).1, ⟨hL _ (by omega) (by omega), h11⟩, ⟨hL _ (by omega) (by omega), h13⟩⟩, ?_, ⟨Nat.zero_le 8, good_00 0, fun i hi => absurd hi (Nat.not_lt_zero i), fun i _ q => Bool.noConfusion q⟩, ⟨h2 3, rel_00 h4, fun i hi => absurd hi (Nat.not_lt_zero i), fun i hi => ⟨fun q => Bool.noConfusion q, fun _ => h12 i⟩⟩, fun i hi => ?_⟩
  · refine ⟨⟨by omega, by omega, by omega, by omega, by omega, by omega, by omega⟩, fun a ha => ?_, ?_, fun i hi => ?_, fun i hi => ?_, fun i hi => ?_, fun i hi i' hi' hne => ?_, fun i hi i' hi' => ?_, ?_⟩
    · unfold sml at ha
      unfold outq ftH ftI
      refine ⟨by omega, by omega, fun i hi => by omega, fun i hi => by omega⟩
    all_goals (simp only [far, ftH, ftI]; omega)
  · unfold far ftI; omega
theorem Ex_00 : Ex w00 := ⟨fun s _ k hk => absurd hk (Nat.not_lt_zero _), rfl, fun s _ h => absurd h (by show ¬ (0 : Int32) = nI 1; decide)⟩
def S00 : abS := (0, w00, (fun _ => w00), (fun _ => w00), fun _ => false)
theorem ExS_00 : ExS S00 := ⟨Ex_00, fun i hi => absurd hi (Nat.not_lt_zero i), fun i _ h => Bool.noConfusion h⟩
theorem hm_rg {D : va_G} {T : Nat → ClassId} {A : Nat → Prop} {B z : Nat} {Sh : hm_S} {I : hm_I} {J : hm_J} {H : Heap} (h : hm D T (rg B z) A Sh I J H) {A' : Nat → Prop} (hA : ∀ q, B ≤ q → q < z → A' q) : hm D T (rg B z) A' Sh I J H := by
  refine ⟨h.1, h.2.weaken (fun k q hk _ => ?_)⟩
  have hm := List.mem_of_getElem? hk
  unfold va_pl at hm
  obtain ⟨a, ha, e⟩ := List.mem_map.mp hm
  have := rg_out ha
  rw [← e]
  exact hA a this.1 this.2
theorem Wo_new {D : va_G} {T : Nat → ClassId} {A : Nat → Prop} {x : Nat} {Sh : hm_S} {I : hm_I} {J : hm_J} {H : Heap} (h : hm D T (rg x (x + 1001)) A Sh I J H) (hX : X3P Sh I x) : Wo D T x 0 S00 H :=
  ⟨_, Sh, I, J, hm_rg h (fun q h1 h2 => ⟨h1, h2⟩), inv_x0 hX⟩
