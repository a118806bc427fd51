/-! part 39: what is told of orders: both sides on masks -/
def ClO (I : hm_I) (o : Nat) (N : Nat → Nat) : Prop := ∀ a, a < 8 → I (o + 1) a = nI (N a) ∧ N a < 256 ∧ I (o + 2) a = nI (clo N a) ∧ clo N a < 256
theorem ClO_of {I : hm_I} {o : Nat} {w : Nat → Int32} {r : Nat} (hO : OrdOk w r) (h : RelO I o w r) : ClO I o (mk w r) := fun a ha => ⟨(h a ha).1.trans (hO.1 a ha).1, (hO.1 a ha).2, (h a ha).2, ord_lt hO a ha⟩
def exB (p : Nat → Bool) : Bool := lp 8 (fun i x => x || p i) false
theorem exB_iff (p : Nat → Bool) : exB p = true ↔ ∃ i, i < 8 ∧ p i = true := by
  have key := lp_inv (n := 8) (f := fun i x => x || p i) (x := false) (fun n x => x = true ↔ ∃ i, i < n ∧ p i = true) ⟨fun h => absurd h (by decide), fun ⟨i, hi, _⟩ => absurd hi (Nat.not_lt_zero i)⟩ ?_
  · exact key
  · intro i z hi hz
    rw [Bool.or_eq_true, hz]
    constructor
    · rintro (⟨j, h1, h2⟩ | h)
      · exact ⟨j, by omega, h2⟩
      · exact ⟨i, by omega, h⟩
    · rintro ⟨j, h1, h2⟩
      by_cases e : j = i
      · subst e; exact Or.inr h2
      · exact Or.inl ⟨j, by omega, h2⟩
theorem exB_cong {p q : Nat → Bool} (h : ∀ i, i < 8 → p i = q i) : exB p = exB q := lp_cong rfl (fun i z hi => by rw [h i hi])
/-- the first ones of a set, as a mask -/
def fstN (C : Nat → Nat) (U : Nat) : Nat := lp 8 (fun i x => if U.testBit i = true then x &&& (255 ^^^ C i) else x) U
def latN (C : Nat → Nat) (U : Nat) : Nat := lp 8 (fun i x => if U.testBit i = true then x ||| C i else x) 0
theorem fstN_spec (C : Nat → Nat) {U : Nat} (hU : U < 256) : fstN C U < 256 ∧ ∀ j, j < 8 → (fstN C U).testBit j = (U.testBit j && !exB (fun i => U.testBit i && (C i).testBit j)) := by
  have key := lp_inv (n := 8) (f := fun i x => if U.testBit i = true then x &&& (255 ^^^ C i) else x) (x := U) (fun n x => x < 256 ∧ ∀ j, j < 8 → x.testBit j = (U.testBit j && !lp n (fun i x => x || (U.testBit i && (C i).testBit j)) false))
    ⟨hU, fun j _ => by rw [lp_0]; simp⟩ ?_
  · exact key
  · intro i z hi hz
    by_cases h : U.testBit i = true
    · simp only [if_pos h]
      refine ⟨m_and hz.1, fun j hj => ?_⟩
      rw [Nat.testBit_and, tb_not hj, hz.2 j hj, lp_s, h, Bool.true_and]
      cases U.testBit j <;> cases lp i (fun i x => x || (U.testBit i && (C i).testBit j)) false <;> cases (C i).testBit j <;> rfl
    · simp only [if_neg h]
      refine ⟨hz.1, fun j hj => ?_⟩
      have h' : U.testBit i = false := by simpa using h
      rw [hz.2 j hj, lp_s, h', Bool.false_and, Bool.or_false]
theorem latN_spec {C : Nat → Nat} (hC : ∀ i, i < 8 → C i < 256) (U : Nat) : latN C U < 256 ∧ ∀ j, j < 8 → (latN C U).testBit j = exB (fun i => U.testBit i && (C i).testBit j) := by
  have key := lp_inv (n := 8) (f := fun i x => if U.testBit i = true then x ||| C i else x) (x := 0) (fun n x => x < 256 ∧ ∀ j, j < 8 → x.testBit j = lp n (fun i x => x || (U.testBit i && (C i).testBit j)) false)
    ⟨by decide, fun j _ => by rw [lp_0, Nat.zero_testBit]⟩ ?_
  · exact key
  · intro i z hi hz
    by_cases h : U.testBit i = true
    · simp only [if_pos h]
      refine ⟨m_or hz.1 (hC i hi), fun j hj => ?_⟩
      rw [Nat.testBit_or, hz.2 j hj, lp_s, h, Bool.true_and]
    · simp only [if_neg h]
      refine ⟨hz.1, fun j hj => ?_⟩
      have h' : U.testBit i = false := by simpa using h
      rw [hz.2 j hj, lp_s, h', Bool.false_and, Bool.or_false]
theorem first_X {I : hm_I} {o U : Nat} {N : Nat → Nat} (h : ClO I o N) (hU : U < 256) : fX1_firstOf I o (nI U) = nI (fstN (clo N) U) := by
  unfold fX1_firstOf fstN
  refine (lq_rel (n := 8) (fun _ x y => x = nI y ∧ y < 256) ⟨rfl, hU⟩ (fun i u v hi huv => ?_)).1
  simp only [fb_isIn U hU i hi, (h i hi).2.2.1, huv.1]
  by_cases q : U.testBit i = true
  · rw [if_pos q, if_pos q, fb_not huv.2]; exact ⟨rfl, m_and huv.2⟩
  · rw [if_neg q, if_neg q]; exact ⟨rfl, huv.2⟩
def pcN (v : Nat) : Nat := (fX4_size (nI v)).toNatClampNeg
theorem pcN_spec : ∀ v, v < 256 → fX4_size (nI v) = nI (pcN v) ∧ pcN v ≤ 8 ∧ (pcN v = 0 ↔ v = 0) := by decide +kernel
theorem lpr_ex {g : Nat → Unit → Bool ⊕ Unit} {P : Nat → Bool} (h : ∀ i, i < 8 → g i () = if P i = true then .inl true else .inr ()) : lpr g (fun _ => false) 8 0 () = exB P := by
  have key : ∀ r i, i + r = 8 → lp i (fun i x => x || P i) false = false → lpr g (fun _ => false) r i () = exB P := by
    intro r
    induction r with
    | zero =>
      intro i hi h0
      have e : i = 8 := by omega
      subst e
      exact h0.symm
    | succ r ih =>
      intro i hi h0
      by_cases q : P i = true
      · rw [lpr_l ((h i (by omega)).trans (if_pos q))]
        exact ((exB_iff P).mpr ⟨i, by omega, q⟩).symm
      · rw [lpr_r ((h i (by omega)).trans (if_neg q))]
        refine ih (i + 1) (by omega) ?_
        rw [lp_s, h0]
        simpa using q
  exact key 8 0 (by omega) rfl
theorem sz_bit : ∀ u, u < 256 → ∀ i, i < 8 → ((nI u >>> ((nI i) &&& 31)) &&& (nI 1)) = if u.testBit i = true then nI 1 else nI 0 := by decide +kernel
theorem edge_t {I : hm_I} {o : Nat} {N : Nat → Nat} (h : ClO I o N) {x y : Nat} (hx : x < 8) (hy : y < 8) : fX1_hasEdge_t I o x y = (N x).testBit y := by
  unfold fX1_hasEdge_t
  rw [(h x hx).1, fb_isIn _ (h x hx).2.1 y hy, bI_ite]
theorem pre_t {I : hm_I} {o : Nat} {N : Nat → Nat} (h : ClO I o N) {x y : Nat} (hx : x < 8) (hy : y < 8) : fX1_precedes_t I o x y = (clo N x).testBit y := by
  unfold fX1_precedes_t
  rw [(h x hx).2.2.1, fb_isIn _ (h x hx).2.2.2 y hy, bI_ite]
