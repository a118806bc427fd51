/-! part 55: lists and pairs -/
def lstn (C : Nat → Nat) (F : Nat → Nat) (v : Nat) : Nat := sm8 (fun i => if v.testBit i = true ∧ C i &&& v = 0 then F (v &&& (255 ^^^ 2 ^ i)) else 0)
def lsG (C : Nat → Nat) (U : Nat) : Nat → Nat → Nat
  | 0 => fun s => if s = 0 then 1 else 0
  | n + 1 => fun s => if s = n + 1 then (if (n + 1) &&& (255 ^^^ U) = 0 then lstn C (lsG C U n) (n + 1) else 0) else lsG C U n s
def nJ (n : Nat) : Int64 := Int64.ofNat n
theorem nJ_add (a b : Nat) : nJ a + nJ b = nJ (a + b) := by unfold nJ; rw [Int64.ofNat_add]
theorem lstT_nat {C : Nat → Nat} {F : Nat → Int64} {G : Nat → Nat} (h : ∀ s, F s = nJ (G s)) (v : Nat) : lstT C F v 8 = nJ (lstn C G v) := by
  unfold lstT lstn
  rw [← sm8_lp]
  refine lq_rel (n := 8) (fun _ x y => x = nJ y) rfl (fun i x y hi hxy => ?_)
  by_cases q1 : v.testBit i = true
  · by_cases q2 : C i &&& v = 0
    · rw [if_pos q1, if_pos q2, if_pos ⟨q1, q2⟩, hxy, h, nJ_add]
    · rw [if_pos q1, if_neg q2, if_neg (fun z => q2 z.2), hxy]; rfl
  · rw [if_neg q1, if_neg (fun z => q1 z.1), hxy]; rfl
theorem lsF_nat (C : Nat → Nat) (U : Nat) : ∀ n s, lsF C U n s = nJ (lsG C U n s) := by
  intro n
  induction n with
  | zero =>
    intro s
    show (if s = 0 then (1 : Int64) else 0) = nJ (if s = 0 then 1 else 0)
    by_cases q : s = 0
    · rw [if_pos q, if_pos q]; rfl
    · rw [if_neg q, if_neg q]; rfl
  | succ n ih =>
    intro s
    show (if s = n + 1 then (if (n + 1) &&& (255 ^^^ U) = 0 then lstT C (lsF C U n) (n + 1) 8 else 0) else lsF C U n s) = nJ (if s = n + 1 then (if (n + 1) &&& (255 ^^^ U) = 0 then lstn C (lsG C U n) (n + 1) else 0) else lsG C U n s)
    by_cases q : s = n + 1
    · rw [if_pos q, if_pos q]
      by_cases q2 : (n + 1) &&& (255 ^^^ U) = 0
      · rw [if_pos q2, if_pos q2]; exact lstT_nat ih (n + 1)
      · rw [if_neg q2, if_neg q2]; rfl
    · rw [if_neg q, if_neg q]; exact ih s
theorem lsG_up (C : Nat → Nat) (U : Nat) : ∀ n s, s ≤ n → lsG C U n s = lsG C U s s := by
  intro n
  induction n with
  | zero => intro s hs; have e : s = 0 := by omega
            rw [e]
  | succ n ih =>
    intro s hs
    by_cases q : s = n + 1
    · rw [q]
    · show (if s = n + 1 then _ else lsG C U n s) = _
      rw [if_neg q]; exact ih s (by omega)
/-- the number of lists of a set -/
def gN (C : Nat → Nat) (U v : Nat) : Nat := lsG C U v v
theorem gN_0 (C : Nat → Nat) (U : Nat) : gN C U 0 = 1 := rfl
theorem gN_s {C : Nat → Nat} {U v : Nat} (hv : 0 < v) (hv2 : v < 256) (hs : v &&& (255 ^^^ U) = 0) : gN C U v = sm8 (fun i => if v.testBit i = true ∧ C i &&& v = 0 then gN C U (v &&& (255 ^^^ 2 ^ i)) else 0) := by
  obtain ⟨n, rfl⟩ : ∃ n, v = n + 1 := ⟨v - 1, by omega⟩
  show (if n + 1 = n + 1 then (if (n + 1) &&& (255 ^^^ U) = 0 then lstn C (lsG C U n) (n + 1) else 0) else lsG C U n (n + 1)) = _
  rw [if_pos rfl, if_pos hs]
  refine sm8_cong (fun i hi => ?_)
  by_cases q : (n + 1).testBit i = true ∧ C i &&& (n + 1) = 0
  · rw [if_pos q, if_pos q]
    exact lsG_up C U n _ (by have := clr_lt8 (n + 1) hv2 i hi q.1; omega)
  · rw [if_neg q, if_neg q]
def fcN : Nat → Nat
  | 0 => 1
  | n + 1 => (n + 1) * fcN n
theorem clr_tb {v s i : Nat} (hs : s < 8) (hi : i < 8) : (v &&& (255 ^^^ 2 ^ s)).testBit i = (v.testBit i && !decide (s = i)) := by rw [Nat.testBit_and, tb_not hi, tb_pow s hs i hi]
theorem and_0 {a v : Nat} (ha : a < 256) : a &&& v = 0 ↔ ∀ j, j < 8 → v.testBit j = true → a.testBit j = false := by
  rw [m_zero (m_and ha)]
  refine ⟨fun h j hj hv => ?_, fun h j hj => ?_⟩
  · have := h j hj
    rw [Nat.testBit_and, hv, Bool.and_true] at this
    exact this
  · rw [Nat.testBit_and]
    cases hv : v.testBit j with
    | true => rw [h j hj hv]; rfl
    | false => rw [Bool.and_false]
theorem sq_s (o : Nat) : (o + 1) * o = o * (o - 1) + 2 * o := by
  cases o with
  | zero => rfl
  | succ k =>
    rw [Nat.add_sub_cancel, Nat.add_mul, Nat.add_mul, Nat.mul_add, Nat.mul_add, Nat.add_mul]
    omega
theorem lists_ok {C : Nat → Nat} {U : Nat} (hC : Sto C) : ∀ m v, v ≤ m → v < 256 → v &&& (255 ^^^ U) = 0 →
    1 ≤ gN C U v ∧ gN C U v ≤ fcN (pcN v) ∧ 2 * pR C v ≤ pcN v * (pcN v - 1) ∧ (2 * pR C v = pcN v * (pcN v - 1) ↔ gN C U v = 1) := by
  intro m
  induction m with
  | zero =>
    intro v hm hv hs
    have e : v = 0 := by omega
    subst e
    have h0 : pR C 0 = 0 := by
      unfold pR
      rw [sm8_cong (g := fun _ => 0) (fun i _ => if_neg (by rw [Nat.zero_testBit]; decide))]
      rfl
    have h1 : pcN 0 = 0 := by decide
    rw [h0, h1, gN_0]
    exact ⟨Nat.le_refl 1, Nat.le_refl 1, Nat.le_refl 0, fun _ => rfl, fun _ => rfl⟩
  | succ m ih =>
    intro v hm hv hs
    rcases Nat.eq_zero_or_pos v with hz | hpos
    · exact ih v (by omega) hv hs
    have hsub := (sub_iff hv).mp hs
    have hx : ∃ s, s < 8 ∧ v.testBit s = true := by
      refine Classical.byContradiction (fun hn => ?_)
      have := (m_zero hv).mpr (fun i hi => nf (fun z => hn ⟨i, hi, z⟩))
      omega
    obtain ⟨s, hs8, hsv, hsmax⟩ := sto_max hC (fun s => v.testBit s = true) hx
    have hmax : ∀ i, i < 8 → (v.testBit i = true ∧ C i &&& v = 0 ↔ v.testBit i = true ∧ ∀ j, j < 8 → v.testBit j = true → ¬ (C i).testBit j = true) := fun i hi => by
      rw [and_0 (hC.1 i hi)]
      refine and_congr_right (fun _ => ⟨fun h j hj h1 h2 => ?_, fun h j hj h1 => nf (h j hj h1)⟩)
      rw [h j hj h1] at h2
      exact absurd h2 (by decide)
    have hsm : v.testBit s = true ∧ C s &&& v = 0 := (hmax s hs8).mpr ⟨hsv, hsmax⟩
    -- what stands without i
    have rec_ : ∀ i, i < 8 → v.testBit i = true → 1 ≤ gN C U (v &&& (255 ^^^ 2 ^ i)) ∧ gN C U (v &&& (255 ^^^ 2 ^ i)) ≤ fcN (pcN (v &&& (255 ^^^ 2 ^ i))) ∧ 2 * pR C (v &&& (255 ^^^ 2 ^ i)) ≤ pcN (v &&& (255 ^^^ 2 ^ i)) * (pcN (v &&& (255 ^^^ 2 ^ i)) - 1) ∧ (2 * pR C (v &&& (255 ^^^ 2 ^ i)) = pcN (v &&& (255 ^^^ 2 ^ i)) * (pcN (v &&& (255 ^^^ 2 ^ i)) - 1) ↔ gN C U (v &&& (255 ^^^ 2 ^ i)) = 1) := fun i hi hvi =>
      ih _ (by have := clr_lt8 v hv i hi hvi; omega) (m_and hv) ((sub_iff (m_and hv)).mpr (fun j hj h => by
        rw [clr_tb hi hj, Bool.and_eq_true] at h
        exact hsub j hj h.1))
    have pcs : ∀ i, i < 8 → v.testBit i = true → pcN v = pcN (v &&& (255 ^^^ 2 ^ i)) + 1 := fun i hi hvi => by
      rw [pc_cnt v hv, pc_cnt _ (m_and hv)]
      have e1 : cnt8 (fun j => decide (i = j)) = 1 := by
        rw [cnt_sm, sm8_one hi (fun j hj hne => by
          have : ¬ i = j := fun z => hne z.symm
          rw [decide_eq_false this]; rfl)]
        simp
      rw [← e1]
      refine cnt_add (fun j hj => ?_)
      rw [clr_tb hi hj]
      by_cases e : i = j
      · subst e; rw [hvi]; simp
      · simp [e]
    have hgs := gN_s (C := C) hpos hv hs
    obtain ⟨r1, r2, r3, r4⟩ := rec_ s hs8 hsv
    have hpc := pcs s hs8 hsv
    generalize hv' : v &&& (255 ^^^ 2 ^ s) = v' at r1 r2 r3 r4 hpc
    have hv'8 : v' < 256 := by rw [← hv']; exact m_and hv
    have tb' : ∀ i, i < 8 → v'.testBit i = (v.testBit i && !decide (s = i)) := fun i hi => by rw [← hv']; exact clr_tb hs8 hi
    -- the pairs
    have hd : cnt8 (fun a => v'.testBit a && (C a).testBit s) ≤ pcN v' := by
      rw [pc_cnt v' hv'8]
      exact cnt_mono (fun i _ h => by rw [Bool.and_eq_true] at h; exact h.1)
    have hpr : pR C v = pR C v' + cnt8 (fun a => v'.testBit a && (C a).testBit s) := by
      unfold pR
      rw [cnt_sm, ← sm8_add]
      refine sm8_cong (fun a ha => ?_)
      show (if v.testBit a = true then cnt8 (fun b => (C a).testBit b && v.testBit b) else 0) = (if v'.testBit a = true then cnt8 (fun b => (C a).testBit b && v'.testBit b) else 0) + (v'.testBit a && (C a).testBit s).toNat
      by_cases e : s = a
      · subst e
        have h1 : v'.testBit s = false := by rw [tb' s hs8]; simp
        rw [if_pos hsv, h1, if_neg (by decide), cn8_0 (fun b hb => nf (fun z => by
          rw [Bool.and_eq_true] at z
          exact hsmax b hb z.2 z.1))]
        rfl
      · have h1 : v'.testBit a = v.testBit a := by rw [tb' a ha, decide_eq_false e]; simp
        rw [h1]
        by_cases q : v.testBit a = true
        · rw [if_pos q, if_pos q, q, Bool.true_and]
          have h2 : cnt8 (fun b => decide (s = b) && (C a).testBit s) = ((C a).testBit s).toNat := by
            rw [cnt_sm, sm8_one hs8 (fun j hj hne => by
              have : ¬ s = j := fun z => hne z.symm
              rw [decide_eq_false this]; rfl)]
            simp
          rw [← h2]
          refine cnt_add (fun b hb => ?_)
          rw [tb' b hb]
          by_cases e2 : s = b
          · subst e2; rw [hsv]; simp
          · simp [e2]
        · rw [if_neg q, if_neg q, nf q]; rfl
    have hsq := sq_s (pcN v')
    have hpc1 : pcN v * (pcN v - 1) = pcN v' * (pcN v' - 1) + 2 * pcN v' := by rw [hpc, Nat.add_sub_cancel]; exact hsq
    -- all others stand below s just if s alone is last
    have hall : cnt8 (fun a => v'.testBit a && (C a).testBit s) = pcN v' ↔ ∀ a, a < 8 → v'.testBit a = true → (C a).testBit s = true := by
      rw [pc_cnt v' hv'8]
      constructor
      · intro h a ha hva
        have := cnt_eq_all (P := fun a => v'.testBit a && (C a).testBit s) (Q := fun a => v'.testBit a) (fun i _ h => by rw [Bool.and_eq_true] at h; exact h.1) h a ha hva
        rw [Bool.and_eq_true] at this
        exact this.2
      · intro h
        exact cnt_cong (fun a ha => by
          cases hva : v'.testBit a with
          | false => rfl
          | true => rw [h a ha hva]; rfl)
    have only : (∀ a, a < 8 → v'.testBit a = true → (C a).testBit s = true) → gN C U v = gN C U v' := fun h => by
      rw [hgs, sm8_one hs8 (fun i hi hne => if_neg (fun z => by
        have h1 := ((hmax i hi).mp z).2 s hs8 hsv
        refine h1 (h i hi ?_)
        have : ¬ s = i := fun q => hne q.symm
        rw [tb' i hi, z.1, decide_eq_false this]; rfl)), if_pos hsm, hv']
    have hone : gN C U v = 1 → (∀ a, a < 8 → v'.testBit a = true → (C a).testBit s = true) := fun h1 a ha hva => by
      rw [tb' a ha, Bool.and_eq_true] at hva
      obtain ⟨x, hx8, ⟨hxv, hxa⟩, hxm⟩ := sto_max hC (fun x => v.testBit x = true ∧ (x = a ∨ (C a).testBit x = true)) ⟨a, ha, hva.1, Or.inl rfl⟩
      have hxmax : v.testBit x = true ∧ C x &&& v = 0 := (hmax x hx8).mpr ⟨hxv, fun j hj hjv hc => hxm j hj ⟨hjv, Or.inr (by
        rcases hxa with e | e
        · rw [← e]; exact hc
        · exact hC.2.2 a x j ha hx8 hj e hc)⟩ hc⟩
      by_cases e : x = s
      · rcases hxa with e2 | e2
        · have : s = a := by rw [← e, e2]
          rw [decide_eq_true this] at hva
          exact absurd hva.2 (by decide)
        · rw [← e]; exact e2
      · exfalso
        have h2 := sm8_two (f := fun i => if v.testBit i = true ∧ C i &&& v = 0 then gN C U (v &&& (255 ^^^ 2 ^ i)) else 0) hs8 hx8 e
        rw [← hgs, h1] at h2
        simp only [if_pos hsm, if_pos hxmax] at h2
        rw [hv'] at h2
        have := (rec_ x hx8 hxv).1
        omega
    refine ⟨?_, ?_, by omega, ?_⟩
    · have := sm8_ge (f := fun i => if v.testBit i = true ∧ C i &&& v = 0 then gN C U (v &&& (255 ^^^ 2 ^ i)) else 0) hs8
      simp only [if_pos hsm] at this
      rw [← hgs, hv'] at this
      omega
    · rw [hgs]
      have hb : sm8 (fun i => if v.testBit i = true ∧ C i &&& v = 0 then gN C U (v &&& (255 ^^^ 2 ^ i)) else 0) ≤ sm8 (fun i => (v.testBit i).toNat * fcN (pcN v')) := sm8_le (fun i hi => by
        by_cases q : v.testBit i = true ∧ C i &&& v = 0
        · rw [if_pos q, q.1]
          have h1 := (rec_ i hi q.1).2.1
          have h2 := pcs i hi q.1
          have h3 : pcN (v &&& (255 ^^^ 2 ^ i)) = pcN v' := by omega
          rw [h3] at h1
          show _ ≤ 1 * fcN (pcN v')
          omega
        · rw [if_neg q]; exact Nat.zero_le _)
      refine Nat.le_trans hb ?_
      have e : sm8 (fun i => (v.testBit i).toNat * fcN (pcN v')) = cnt8 (fun i => v.testBit i) * fcN (pcN v') := by
        unfold sm8 cnt8
        simp only [Nat.add_mul]
      rw [e, ← pc_cnt v hv, hpc]
      exact Nat.le_refl _
    · constructor
      · intro h
        have h1 : cnt8 (fun a => v'.testBit a && (C a).testBit s) = pcN v' := by omega
        have h2 : 2 * pR C v' = pcN v' * (pcN v' - 1) := by omega
        rw [only (hall.mp h1)]
        exact r4.mp h2
      · intro h
        have h1 := hone h
        have h2 := hall.mpr h1
        rw [only h1] at h
        have h3 := r4.mpr h
        omega
theorem fc_le : ∀ o, o ≤ 8 → fcN o ≤ 40320 := by decide
/-- the lists, the pairs, as the class has them -/
theorem lists_one {C : Nat → Nat} {U : Nat} (hC : Sto C) (hU : U < 256) : ∃ g, lsF C U U U = nJ g ∧ 1 ≤ g ∧ g ≤ 40320 ∧ (pairN C U = pcN U * (pcN U - 1) / 2 ↔ g = 1) := by
  obtain ⟨h1, h2, h3, h4⟩ := lists_ok (U := U) hC U U (Nat.le_refl U) hU ((sub_iff hU).mpr (fun _ _ h => h))
  have hp := (pcN_spec U hU).2.1
  refine ⟨gN C U U, lsF_nat C U U U, h1, Nat.le_trans h2 (fc_le _ hp), ?_⟩
  rw [← h4, pair_eq hC.1]
  have key : ∀ o, o ≤ 8 → o * (o - 1) % 2 = 0 := by decide
  have := key (pcN U) hp
  generalize pcN U * (pcN U - 1) = z at *
  omega
