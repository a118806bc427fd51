/-! part 54: the numbers of an order fit together (masks of eight) -/
def sm8 (f : Nat → Nat) : Nat := f 0 + f 1 + f 2 + f 3 + f 4 + f 5 + f 6 + f 7
theorem sm8_cong {f g : Nat → Nat} (h : ∀ i, i < 8 → f i = g i) : sm8 f = sm8 g := by
  unfold sm8
  rw [h 0 (by omega), h 1 (by omega), h 2 (by omega), h 3 (by omega), h 4 (by omega), h 5 (by omega), h 6 (by omega), h 7 (by omega)]
theorem sm8_add (f g : Nat → Nat) : sm8 (fun i => f i + g i) = sm8 f + sm8 g := by
  show (f 0 + g 0) + (f 1 + g 1) + (f 2 + g 2) + (f 3 + g 3) + (f 4 + g 4) + (f 5 + g 5) + (f 6 + g 6) + (f 7 + g 7) = _
  unfold sm8
  omega
theorem sm8_le {f g : Nat → Nat} (h : ∀ i, i < 8 → f i ≤ g i) : sm8 f ≤ sm8 g := by
  have h0 := h 0 (by omega)
  have h1 := h 1 (by omega)
  have h2 := h 2 (by omega)
  have h3 := h 3 (by omega)
  have h4 := h 4 (by omega)
  have h5 := h 5 (by omega)
  have h6 := h 6 (by omega)
  have h7 := h 7 (by omega)
  unfold sm8; omega
theorem c8 {s : Nat} (h : s < 8) : s = 0 ∨ s = 1 ∨ s = 2 ∨ s = 3 ∨ s = 4 ∨ s = 5 ∨ s = 6 ∨ s = 7 := by omega
theorem sm8_ge {f : Nat → Nat} {s : Nat} (hs : s < 8) : f s ≤ sm8 f := by
  unfold sm8
  rcases c8 hs with e | e | e | e | e | e | e | e <;> subst e <;> omega
theorem sm8_split {f : Nat → Nat} {s : Nat} (hs : s < 8) : sm8 f = f s + sm8 (fun i => if i = s then 0 else f i) := by
  unfold sm8
  rcases c8 hs with e | e | e | e | e | e | e | e <;> subst e <;> simp <;> omega
theorem sm8_two {f : Nat → Nat} {s i : Nat} (hs : s < 8) (hi : i < 8) (hne : i ≠ s) : f s + f i ≤ sm8 f := by
  rw [sm8_split (f := f) hs]
  have := sm8_ge (f := fun i => if i = s then 0 else f i) hi
  simp only [if_neg hne] at this
  omega
theorem sm8_one {f : Nat → Nat} {s : Nat} (hs : s < 8) (h : ∀ i, i < 8 → i ≠ s → f i = 0) : sm8 f = f s := by
  rw [sm8_split (f := f) hs, sm8_cong (g := fun _ => 0) (fun i hi => by
    by_cases e : i = s
    · rw [if_pos e]
    · rw [if_neg e]; exact h i hi e)]
  rfl
theorem sm8_lp (f : Nat → Nat) : lp 8 (fun a n => n + f a) 0 = sm8 f := by
  show 0 + f 0 + f 1 + f 2 + f 3 + f 4 + f 5 + f 6 + f 7 = _
  unfold sm8
  omega
theorem cnt_sm (P : Nat → Bool) : cnt8 P = sm8 (fun i => (P i).toNat) := rfl
theorem cnt_cong {P Q : Nat → Bool} (h : ∀ i, i < 8 → P i = Q i) : cnt8 P = cnt8 Q := by
  rw [cnt_sm, cnt_sm]
  exact sm8_cong (fun i hi => by rw [h i hi])
theorem cnt_mono {P Q : Nat → Bool} (h : ∀ i, i < 8 → P i = true → Q i = true) : cnt8 P ≤ cnt8 Q := sm8_le (fun i hi => b_mono (h i hi))
theorem cnt_add {P Q R : Nat → Bool} (h : ∀ i, i < 8 → (P i).toNat = (Q i).toNat + (R i).toNat) : cnt8 P = cnt8 Q + cnt8 R := by
  rw [cnt_sm, cnt_sm, cnt_sm, ← sm8_add]
  exact sm8_cong h
theorem cn8_0 {P : Nat → Bool} (h : ∀ i, i < 8 → P i = false) : cnt8 P = 0 := by
  rw [cnt_cong h]; rfl
theorem cnt_pos {P : Nat → Bool} {i : Nat} (hi : i < 8) (h : P i = true) : 0 < cnt8 P := by
  have := sm8_ge (f := fun i => (P i).toNat) hi
  rw [cnt_sm]
  simp only [h] at this
  exact this
theorem cnt_eq_all {P Q : Nat → Bool} (h : ∀ i, i < 8 → P i = true → Q i = true) (he : cnt8 P = cnt8 Q) : ∀ i, i < 8 → Q i = true → P i = true := by
  intro i hi hq
  cases hp : P i with
  | true => rfl
  | false => have := cnt8_lt h hi hq hp; omega
theorem pc_cnt : ∀ v, v < 256 → pcN v = cnt8 (fun i => v.testBit i) := by decide +kernel
/-! strict orders -/
def Sto (C : Nat → Nat) : Prop := (∀ a, a < 8 → C a < 256) ∧ (∀ a, a < 8 → (C a).testBit a = false) ∧ ∀ a b c, a < 8 → b < 8 → c < 8 → (C a).testBit b = true → (C b).testBit c = true → (C a).testBit c = true
theorem Sto_ord {w : Nat → Int32} {r : Nat} (h : OrdOk w r) : Sto (clo (mk w r)) := ⟨fun a ha => ord_lt h a ha, h.2, fun a b c _ hb _ h1 h2 => clo_trans (mk w r) a b c hb h1 h2⟩
theorem ex_least {R : Nat → Nat → Prop} (hi : ∀ a, a < 8 → ¬ R a a) (ht : ∀ a b c, a < 8 → b < 8 → c < 8 → R a b → R b c → R a c) (S : Nat → Prop) : ∀ n, n ≤ 8 → (∃ s, s < n ∧ S s) → ∃ s, s < n ∧ S s ∧ ∀ a, a < n → S a → ¬ R a s := by
  intro n
  induction n with
  | zero => intro _ h; obtain ⟨s, hs, -⟩ := h; exact absurd hs (Nat.not_lt_zero s)
  | succ n ih =>
    intro hn h
    by_cases hx : ∃ s, s < n ∧ S s
    · obtain ⟨s, hs, hS, hmin⟩ := ih (by omega) hx
      by_cases hy : S n ∧ R n s
      · refine ⟨n, by omega, hy.1, fun a ha hSa hc => ?_⟩
        rcases Nat.lt_or_ge a n with q | q
        · exact hmin a q hSa (ht a n s (by omega) (by omega) (by omega) hc hy.2)
        · have e : a = n := by omega
          subst e
          exact hi a (by omega) hc
      · refine ⟨s, by omega, hS, fun a ha hSa hc => ?_⟩
        rcases Nat.lt_or_ge a n with q | q
        · exact hmin a q hSa hc
        · have e : a = n := by omega
          subst e
          exact hy ⟨hSa, hc⟩
    · obtain ⟨s, hs, hS⟩ := h
      have e : s = n := by
        rcases Nat.lt_or_ge s n with q | q
        · exact absurd ⟨s, q, hS⟩ hx
        · omega
      subst e
      refine ⟨s, by omega, hS, fun a ha hSa hc => ?_⟩
      rcases Nat.lt_or_ge a s with q | q
      · exact hx ⟨a, q, hSa⟩
      · have e : a = s := by omega
        subst e
        exact hi a (by omega) hc
theorem sto_min {C : Nat → Nat} (hC : Sto C) (S : Nat → Prop) (h : ∃ s, s < 8 ∧ S s) : ∃ s, s < 8 ∧ S s ∧ ∀ a, a < 8 → S a → ¬ (C a).testBit s = true :=
  ex_least (R := fun a b => (C a).testBit b = true) (fun a ha z => by rw [hC.2.1 a ha] at z; exact absurd z (by decide)) hC.2.2 S 8 (Nat.le_refl 8) h
theorem sto_max {C : Nat → Nat} (hC : Sto C) (S : Nat → Prop) (h : ∃ s, s < 8 ∧ S s) : ∃ s, s < 8 ∧ S s ∧ ∀ a, a < 8 → S a → ¬ (C s).testBit a = true :=
  ex_least (R := fun a b => (C b).testBit a = true) (fun a ha z => by rw [hC.2.1 a ha] at z; exact absurd z (by decide)) (fun a b c ha hb hc h1 h2 => hC.2.2 c b a hc hb ha h2 h1) S 8 (Nat.le_refl 8) h
theorem fst_iff (C : Nat → Nat) {U j : Nat} (hU : U < 256) (hj : j < 8) : (fstN C U).testBit j = true ↔ U.testBit j = true ∧ ∀ i, i < 8 → U.testBit i = true → ¬ (C i).testBit j = true := by
  rw [(fstN_spec C hU).2 j hj, Bool.and_eq_true, Bool.not_eq_true']
  refine and_congr_right (fun _ => ⟨fun h i hi h1 h2 => ?_, fun h => ?_⟩)
  · have := (exB_iff (fun i => U.testBit i && (C i).testBit j)).mpr ⟨i, hi, by rw [h1, h2]; rfl⟩
    rw [h] at this
    exact absurd this (by decide)
  · refine nf (fun z => ?_)
    obtain ⟨i, hi, h1⟩ := (exB_iff _).mp z
    rw [Bool.and_eq_true] at h1
    exact h i hi h1.1 h1.2
theorem sub_iff {A U : Nat} (hA : A < 256) : A &&& (255 ^^^ U) = 0 ↔ ∀ j, j < 8 → A.testBit j = true → U.testBit j = true := by
  rw [m_zero (m_and hA)]
  refine ⟨fun h j hj ha => ?_, fun h j hj => ?_⟩
  · have := h j hj
    rw [Nat.testBit_and, tb_not hj, ha, Bool.true_and, Bool.not_eq_false'] at this
    exact this
  · rw [Nat.testBit_and, tb_not hj]
    cases ha : A.testBit j with
    | false => rfl
    | true => rw [h j hj ha]; rfl
theorem anti_iff (C : Nat → Nat) {A : Nat} (hA : A < 256) : fstN C A = A ↔ ∀ i j, i < 8 → j < 8 → A.testBit i = true → A.testBit j = true → ¬ (C i).testBit j = true := by
  constructor
  · intro h i j hi hj h1 h2
    have := (fst_iff C hA hj).mp (by rw [h]; exact h2)
    exact this.2 i hi h1
  · intro h
    refine m_ext (fstN_spec C hA).1 hA (fun j hj => ?_)
    cases ha : A.testBit j with
    | true => exact (fst_iff C hA hj).mpr ⟨ha, fun i hi h1 => h i j hi hj h1 ha⟩
    | false => exact nf (fun z => by have := ((fst_iff C hA hj).mp z).1; rw [ha] at this; exact absurd this (by decide))
theorem fst_lt (C : Nat → Nat) {U : Nat} (hU : U < 256) : fstN C U < 256 := (fstN_spec C hU).1
/-! the widest choice -/
theorem wid_ge {C : Nat → Nat} {U A : Nat} (hA : A < 256) (h1 : A &&& (255 ^^^ U) = 0) (h2 : fstN C A = A) : pcN A ≤ widN C U := by
  unfold widN
  refine (lp_inv (n := 256) (f := fun i x => if i &&& (255 ^^^ U) = 0 then if pcN i ≤ x then x else if fstN C i = i then pcN i else x else x) (x := 0) (fun i x => A < i → pcN A ≤ x) (fun h => absurd h (Nat.not_lt_zero A)) (fun i x hi hx => ?_)) hA
  intro h
  by_cases e : A = i
  · subst e
    rw [if_pos h1]
    by_cases q : pcN A ≤ x
    · rw [if_pos q]; exact q
    · rw [if_neg q, if_pos h2]; exact Nat.le_refl _
  · have hx := hx (by omega)
    by_cases q1 : i &&& (255 ^^^ U) = 0
    · rw [if_pos q1]
      by_cases q : pcN i ≤ x
      · rw [if_pos q]; exact hx
      · rw [if_neg q]
        by_cases q3 : fstN C i = i
        · rw [if_pos q3]; omega
        · rw [if_neg q3]; exact hx
    · rw [if_neg q1]; exact hx
theorem wid_ex (C : Nat → Nat) (U : Nat) : ∃ A, A < 256 ∧ A &&& (255 ^^^ U) = 0 ∧ fstN C A = A ∧ pcN A = widN C U := by
  unfold widN
  refine lp_inv (n := 256) (f := fun i x => if i &&& (255 ^^^ U) = 0 then if pcN i ≤ x then x else if fstN C i = i then pcN i else x else x) (x := 0) (fun i x => ∃ A, A < 256 ∧ A &&& (255 ^^^ U) = 0 ∧ fstN C A = A ∧ pcN A = x) ⟨0, by decide, Nat.zero_and _, ?_, by decide⟩ (fun i x hi hx => ?_)
  · refine m_ext (fst_lt C (by decide)) (by decide) (fun j hj => ?_)
    rw [Nat.zero_testBit]
    refine nf (fun z => ?_)
    have := ((fst_iff C (by decide) hj).mp z).1
    rw [Nat.zero_testBit] at this
    exact absurd this (by decide)
  · by_cases q1 : i &&& (255 ^^^ U) = 0
    · simp only [if_pos q1]
      by_cases q : pcN i ≤ x
      · simp only [if_pos q]; exact hx
      · simp only [if_neg q]
        by_cases q3 : fstN C i = i
        · simp only [if_pos q3]; exact ⟨i, hi, q1, q3, rfl⟩
        · simp only [if_neg q3]; exact hx
    · simp only [if_neg q1]; exact hx
theorem wid_le {C : Nat → Nat} {U : Nat} (hU : U < 256) : widN C U ≤ pcN U := by
  obtain ⟨A, hA, h1, -, h3⟩ := wid_ex C U
  rw [← h3, pc_cnt A hA, pc_cnt U hU]
  exact cnt_mono (fun i hi h => (sub_iff hA).mp h1 i hi h)
/-! layers -/
theorem lev_iff {C : Nat → Nat} {U i j : Nat} (hU : U < 256) (hj : j < 8) : (lev C U (i + 1)).testBit j = true ↔ (lev C U i).testBit j = true ∧ ∃ a, a < 8 ∧ (lev C U i).testBit a = true ∧ (C a).testBit j = true := by
  rw [lev_tb C hU i hj, Bool.and_eq_true, exB_iff]
  refine and_congr_right (fun _ => ⟨fun ⟨a, h1, h2⟩ => ?_, fun ⟨a, h1, h2, h3⟩ => ⟨a, h1, by rw [h2, h3]; rfl⟩⟩)
  rw [Bool.and_eq_true] at h2
  exact ⟨a, h1, h2.1, h2.2⟩
theorem lev_pc {C : Nat → Nat} {U : Nat} (hU : U < 256) (i : Nat) : pcN (lev C U i) = pcN (lev C U (i + 1)) + pcN (fstN C (lev C U i)) := by
  have hl := lev_lt C hU i
  rw [pc_cnt _ hl, pc_cnt _ (lev_lt C hU (i + 1)), pc_cnt _ (fst_lt C hl)]
  refine cnt_add (fun j hj => ?_)
  rw [lev_tb C hU i hj, (fstN_spec C hl).2 j hj]
  cases (lev C U i).testBit j <;> cases exB (fun a => (lev C U i).testBit a && (C a).testBit j) <;> rfl
theorem lev_sub {C : Nat → Nat} {U i j : Nat} (hU : U < 256) (hj : j < 8) (h : (lev C U i).testBit j = true) : U.testBit j = true := lev_dn C hU hj i h 0 (Nat.zero_le i)
theorem lay_wid {C : Nat → Nat} {U : Nat} (hU : U < 256) (i : Nat) : pcN (fstN C (lev C U i)) ≤ widN C U := by
  have hl := lev_lt C hU i
  have hf := fst_lt C hl
  refine wid_ge hf ((sub_iff hf).mpr (fun j hj h => lev_sub hU hj ((fst_iff C hl hj).mp h).1)) ((anti_iff C hf).mpr (fun a b ha hb h1 h2 => ((fst_iff C hl hb).mp h2).2 a ha ((fst_iff C hl ha).mp h1).1))
theorem mul_ok {C : Nat → Nat} {U k : Nat} (hU : U < 256) (hk : lev C U k = 0) : pcN U ≤ k * widN C U := by
  have key : ∀ j, j ≤ k → pcN (lev C U (k - j)) ≤ j * widN C U := by
    intro j
    induction j with
    | zero => intro _; rw [Nat.sub_zero, hk]; exact Nat.zero_le _
    | succ j ih =>
      intro hj
      have ih := ih (by omega)
      have e := lev_pc (C := C) hU (k - (j + 1))
      rw [show k - (j + 1) + 1 = k - j by omega] at e
      have := lay_wid (C := C) hU (k - (j + 1))
      rw [e, Nat.succ_mul]
      omega
  have := key k (Nat.le_refl k)
  rw [Nat.sub_self] at this
  exact this
theorem add_ok {C : Nat → Nat} {U k : Nat} (hC : Sto C) (hU : U < 256) (h0 : ∀ i, i < k → ¬ lev C U i = 0) (hk : lev C U k = 0) : k + widN C U ≤ pcN U + 1 := by
  obtain ⟨A, hA, hs, ha, hw⟩ := wid_ex C U
  have hsub := (sub_iff hA).mp hs
  have hanti := (anti_iff C hA).mp ha
  have key : ∀ i, i < k → ∀ x, x < 8 → (lev C U i).testBit x = true → (lev C U (i + 1)).testBit x = false →
      i ≤ cnt8 (fun j => U.testBit j && !(lev C U (i + 1)).testBit j && !A.testBit j) ∧ ((∀ a, a < 8 → A.testBit a = true → ¬ (C a).testBit x = true) → A.testBit x = false → i + 1 ≤ cnt8 (fun j => U.testBit j && !(lev C U (i + 1)).testBit j && !A.testBit j)) := by
    intro i
    induction i with
    | zero =>
      intro _ x hx h1 h2
      refine ⟨Nat.zero_le _, fun _ h4 => cnt_pos hx ?_⟩
      rw [lev_sub hU hx h1, h2, h4]; rfl
    | succ i ih =>
      intro hik x hx h1 h2
      obtain ⟨h3, y, hy, hy1, hy2⟩ := (lev_iff hU hx).mp h1
      have hy3 : (lev C U (i + 1)).testBit y = false := nf (fun z => by
        have := (lev_iff (C := C) (i := i + 1) hU hx).mpr ⟨h1, y, hy, z, hy2⟩
        rw [h2] at this
        exact absurd this (by decide))
      obtain ⟨i1, i2⟩ := ih (by omega) y hy hy1 hy3
      have hm : ∀ j, j < 8 → (U.testBit j && !(lev C U (i + 1)).testBit j && !A.testBit j) = true → (U.testBit j && !(lev C U (i + 1 + 1)).testBit j && !A.testBit j) = true := fun j hj h => by
        rw [Bool.and_eq_true, Bool.and_eq_true, Bool.not_eq_true', Bool.not_eq_true'] at h
        obtain ⟨⟨q1, q2⟩, q3⟩ := h
        have q4 : (lev C U (i + 1 + 1)).testBit j = false := nf (fun z => by
          have := ((lev_iff hU hj).mp z).1
          rw [q2] at this
          exact absurd this (by decide))
        rw [q1, q3, q4]; rfl
      have mono := cnt_mono hm
      have strict : A.testBit x = false → cnt8 (fun j => U.testBit j && !(lev C U (i + 1)).testBit j && !A.testBit j) < cnt8 (fun j => U.testBit j && !(lev C U (i + 1 + 1)).testBit j && !A.testBit j) := fun hax =>
        cnt8_lt hm hx (by show (U.testBit x && !(lev C U (i + 1 + 1)).testBit x && !A.testBit x) = true; rw [lev_sub hU hx h1, h2, hax]; rfl) (by show (U.testBit x && !(lev C U (i + 1)).testBit x && !A.testBit x) = false; rw [h1]; simp)
      refine ⟨?_, fun hno hax => ?_⟩
      · cases hax : A.testBit x with
        | true =>
          have hay : A.testBit y = false := nf (fun z => hanti y x hy hx z hax hy2)
          have := i2 (fun a ha hA1 hc => hanti a x ha hx hA1 hax (hC.2.2 a y x ha hy hx hc hy2)) hay
          omega
        | false => have := strict hax; omega
      · have hay : A.testBit y = false := nf (fun z => hno y hy z hy2)
        have h5 := i2 (fun a ha hA1 hc => hno a ha hA1 (hC.2.2 a y x ha hy hx hc hy2)) hay
        have := strict hax
        omega
  rw [← hw, pc_cnt A hA, pc_cnt U hU]
  have hsum : cnt8 (fun i => U.testBit i) = cnt8 (fun i => A.testBit i) + cnt8 (fun i => U.testBit i && !A.testBit i) := cnt_add (fun i hi => by
    cases ha1 : A.testBit i with
    | true => rw [hsub i hi ha1]; rfl
    | false => cases U.testBit i <;> rfl)
  cases k with
  | zero => rw [hsum]; omega
  | succ k =>
    obtain ⟨x, hx, hx1⟩ := lev_nz hU (h0 k (Nat.lt_succ_self k))
    have h1 := (key k (Nat.lt_succ_self k) x hx hx1 (by rw [hk, Nat.zero_testBit])).1
    have h2 : cnt8 (fun j => U.testBit j && !(lev C U (k + 1)).testBit j && !A.testBit j) ≤ cnt8 (fun i => U.testBit i && !A.testBit i) := cnt_mono (fun j _ h => by
      rw [Bool.and_eq_true, Bool.and_eq_true] at h
      rw [h.1.1, h.2]; rfl)
    omega
theorem len_0 {C : Nat → Nat} {U k : Nat} (hU : U < 256) (h0 : ∀ i, i < k → ¬ lev C U i = 0) (hk : lev C U k = 0) : pcN U = 0 ↔ k = 0 := by
  rw [(pcN_spec U hU).2.2]
  constructor
  · intro h
    rcases Nat.eq_zero_or_pos k with q | q
    · exact q
    · exact absurd h (h0 0 q)
  · intro h; subst h; exact hk
theorem fst_ok {C : Nat → Nat} {U : Nat} (hC : Sto C) (hU : U < 256) : 0 < pcN (fstN C U) ∨ pcN U = 0 := by
  by_cases h : U = 0
  · right; exact ((pcN_spec U hU).2.2).mpr h
  · left
    have hx : ∃ s, s < 8 ∧ U.testBit s = true := by
      refine Classical.byContradiction (fun hn => h ((m_zero hU).mpr (fun i hi => nf (fun z => hn ⟨i, hi, z⟩))))
    obtain ⟨s, hs, h1, h2⟩ := sto_min hC (fun s => U.testBit s = true) hx
    rw [pc_cnt _ (fst_lt C hU)]
    exact cnt_pos hs ((fst_iff C hU hs).mpr ⟨h1, h2⟩)
/-! pairs -/
def pR (C : Nat → Nat) (U : Nat) : Nat := sm8 (fun a => if U.testBit a = true then cnt8 (fun b => (C a).testBit b && U.testBit b) else 0)
theorem pair_eq {C : Nat → Nat} {U : Nat} (hC : ∀ a, a < 8 → C a < 256) : pairN C U = pR C U := by
  unfold pairN pR
  rw [← sm8_lp]
  refine lp_cong rfl (fun a n ha => ?_)
  by_cases q : U.testBit a = true
  · rw [if_pos q, if_pos q, pc_cnt _ (m_and (hC a ha))]
    exact congrArg (n + ·) (cnt_cong (fun b _ => Nat.testBit_and _ _ b))
  · rw [if_neg q, if_neg q]; rfl
theorem pr_0 {C : Nat → Nat} {U : Nat} (hU : U < 256) : pR C U = 0 ↔ fstN C U = U := by
  rw [anti_iff C hU]
  constructor
  · intro h i j hi hj h1 h2 h3
    have := sm8_ge (f := fun a => if U.testBit a = true then cnt8 (fun b => (C a).testBit b && U.testBit b) else 0) hi
    simp only [if_pos h1] at this
    have h4 := cnt_pos (P := fun b => (C i).testBit b && U.testBit b) hj (by show ((C i).testBit j && U.testBit j) = true; rw [h2, h3]; rfl)
    unfold pR at h
    omega
  · intro h
    unfold pR
    rw [sm8_cong (g := fun _ => 0) (fun a ha => ?_)]
    · rfl
    · by_cases q : U.testBit a = true
      · rw [if_pos q]
        refine cn8_0 (fun b hb => nf (fun z => ?_))
        rw [Bool.and_eq_true] at z
        exact h a b ha hb q z.2 z.1
      · rw [if_neg q]
theorem pair_wid {C : Nat → Nat} {U : Nat} (hC : Sto C) (hU : U < 256) : pairN C U = 0 ↔ widN C U = pcN U := by
  rw [pair_eq hC.1, pr_0 hU]
  have hle := wid_le (C := C) hU
  constructor
  · intro h
    have := wid_ge (C := C) (U := U) hU ((sub_iff hU).mpr (fun _ _ h => h)) h
    omega
  · intro h
    obtain ⟨A, hA, h1, h2, h3⟩ := wid_ex C U
    have hs := (sub_iff hA).mp h1
    have he : A = U := m_ext hA hU (fun i hi => by
      rw [h] at h3
      rw [pc_cnt A hA, pc_cnt U hU] at h3
      have := cnt_eq_all hs h3
      cases hu : U.testBit i with
      | true => exact this i hi hu
      | false => exact nf (fun z => by have := hs i hi z; rw [hu] at this; exact absurd this (by decide)))
    rw [← he]; exact h2
