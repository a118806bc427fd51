/-! part 39: what is told of orders: both sides on masks -/
def ClO (I : hm_I) (o : Nat) (N : Nat → Nat) : Prop := ∀ a, a < 8 → I (o + 1) a = nI (N a) ∧ N a < 256 ∧ I (o + 2) a = nI (clo N a) ∧ clo N a < 256
def MoO (X : hm_I) (b r : Nat) (N : Nat → Nat) : Prop := ∀ a, a < 8 → X (b + 1) (r + a) = nI (N a) ∧ X (b + 4) a = nI (clo N a)
theorem ClO_of {I : hm_I} {o : Nat} {w : Nat → Int32} {r : Nat} (hO : OrdOk w r) (h : RelO I o w r) : ClO I o (mk w r) := fun a ha => ⟨(h a ha).1.trans (hO.1 a ha).1, (hO.1 a ha).2, (h a ha).2, ord_lt hO a ha⟩
theorem MoO_of {I : hm_I} {b r : Nat} {w : Nat → Int32} (hR : RowIs I b w) (hr : r + 8 ≤ 428) (hO : OrdOk w r) : MoO (fX4_layAfter I b r) b r (mk w r) := by
  have h := la_row hR hr hO
  exact fun a ha => ⟨(h.1 _ _ (by omega)).trans ((hR _ (by omega)).trans (hO.1 a ha).1), h.2 a ha⟩
def exB (p : Nat → Bool) : Bool := lp 8 (fun i x => x || p i) false
theorem exB_iff (p : Nat → Bool) : exB p = true ↔ ∃ i, i < 8 ∧ p i = true := by
  have key := lp_inv (n := 8) (f := fun i x => x || p i) (x := false) (fun n x => x = true ↔ ∃ i, i < n ∧ p i = true) ⟨fun h => absurd h (by decide), fun ⟨i, hi, _⟩ => absurd hi (Nat.not_lt_zero i)⟩ ?_
  · exact key
  · intro i z hi hz
    rw [Bool.or_eq_true, hz]
    constructor
    · rintro (⟨j, h1, h2⟩ | h)
      · exact ⟨j, by omega, h2⟩
      · exact ⟨i, by omega, h⟩
    · rintro ⟨j, h1, h2⟩
      by_cases e : j = i
      · subst e; exact Or.inr h2
      · exact Or.inl ⟨j, by omega, h2⟩
theorem exB_cong {p q : Nat → Bool} (h : ∀ i, i < 8 → p i = q i) : exB p = exB q := lp_cong rfl (fun i z hi => by rw [h i hi])
/-- the first ones of a set, as a mask -/
def fstN (C : Nat → Nat) (U : Nat) : Nat := lp 8 (fun i x => if U.testBit i = true then x &&& (255 ^^^ C i) else x) U
def latN (C : Nat → Nat) (U : Nat) : Nat := lp 8 (fun i x => if U.testBit i = true then x ||| C i else x) 0
theorem fstN_spec (C : Nat → Nat) {U : Nat} (hU : U < 256) : fstN C U < 256 ∧ ∀ j, j < 8 → (fstN C U).testBit j = (U.testBit j && !exB (fun i => U.testBit i && (C i).testBit j)) := by
  have key := lp_inv (n := 8) (f := fun i x => if U.testBit i = true then x &&& (255 ^^^ C i) else x) (x := U) (fun n x => x < 256 ∧ ∀ j, j < 8 → x.testBit j = (U.testBit j && !lp n (fun i x => x || (U.testBit i && (C i).testBit j)) false))
    ⟨hU, fun j _ => by rw [lp_0]; simp⟩ ?_
  · exact key
  · intro i z hi hz
    by_cases h : U.testBit i = true
    · simp only [if_pos h]
      refine ⟨m_and hz.1, fun j hj => ?_⟩
      rw [Nat.testBit_and, tb_not hj, hz.2 j hj, lp_s, h, Bool.true_and]
      cases U.testBit j <;> cases lp i (fun i x => x || (U.testBit i && (C i).testBit j)) false <;> cases (C i).testBit j <;> rfl
    · simp only [if_neg h]
      refine ⟨hz.1, fun j hj => ?_⟩
      have h' : U.testBit i = false := by simpa using h
      rw [hz.2 j hj, lp_s, h', Bool.false_and, Bool.or_false]
theorem latN_spec {C : Nat → Nat} (hC : ∀ i, i < 8 → C i < 256) (U : Nat) : latN C U < 256 ∧ ∀ j, j < 8 → (latN C U).testBit j = exB (fun i => U.testBit i && (C i).testBit j) := by
  have key := lp_inv (n := 8) (f := fun i x => if U.testBit i = true then x ||| C i else x) (x := 0) (fun n x => x < 256 ∧ ∀ j, j < 8 → x.testBit j = lp n (fun i x => x || (U.testBit i && (C i).testBit j)) false)
    ⟨by decide, fun j _ => by rw [lp_0, Nat.zero_testBit]⟩ ?_
  · exact key
  · intro i z hi hz
    by_cases h : U.testBit i = true
    · simp only [if_pos h]
      refine ⟨m_or hz.1 (hC i hi), fun j hj => ?_⟩
      rw [Nat.testBit_or, hz.2 j hj, lp_s, h, Bool.true_and]
    · simp only [if_neg h]
      refine ⟨hz.1, fun j hj => ?_⟩
      have h' : U.testBit i = false := by simpa using h
      rw [hz.2 j hj, lp_s, h', Bool.false_and, Bool.or_false]
theorem first_X {I : hm_I} {o U : Nat} {N : Nat → Nat} (h : ClO I o N) (hU : U < 256) : fX1_firstOf I o (nI U) = nI (fstN (clo N) U) := by
  unfold fX1_firstOf fstN
  refine (lq_rel (n := 8) (fun _ x y => x = nI y ∧ y < 256) ⟨rfl, hU⟩ (fun i u v hi huv => ?_)).1
  simp only [fb_isIn U hU i hi, (h i hi).2.2.1, huv.1]
  by_cases q : U.testBit i = true
  · rw [if_pos q, if_pos q, fb_not huv.2]; exact ⟨rfl, m_and huv.2⟩
  · rw [if_neg q, if_neg q]; exact ⟨rfl, huv.2⟩
theorem late_M {X : hm_I} {b r U : Nat} {N : Nat → Nat} (h : MoO X b r N) (hU : U < 256) : lp 8 (fun i4 x4 => if fX4_has (nI U) (nI i4) = true then x4 ||| (X (b + 4) i4) else x4 ||| (nI 0)) (nI 0) = nI (latN (clo N) U) := by
  unfold latN
  refine lq_rel (n := 8) (fun _ x y => x = nI y) rfl (fun i u v hi huv => ?_)
  simp only [fb_has U hU i hi, (h i hi).2, huv, fa_or, Nat.or_zero]
  by_cases q : U.testBit i = true
  · rw [if_pos q, if_pos q]
  · rw [if_neg q, if_neg q]
theorem first_eq {I X : hm_I} {o b r U : Nat} {N : Nat → Nat} (h : ClO I o N) (hM : MoO X b r N) (hU : U < 256) : fJ6_bitCount_0f7a4 (fX1_firstOf I o (nI U)) = fX4_first X b (nI U) := by
  have h1 := fstN_spec (clo N) hU
  have h2 := latN_spec (C := clo N) (fun i hi => (h i hi).2.2.2) U
  unfold fX4_first
  rw [first_X h hU, late_M hM hU, fb_not hU, fb_cnt _ h1.1]
  have e : fstN (clo N) U = U &&& (255 ^^^ latN (clo N) U) := m_ext h1.1 (m_and hU) (fun j hj => by rw [h1.2 j hj, Nat.testBit_and, tb_not hj, h2.2 j hj])
  rw [e]
theorem pairs_eq {I X : hm_I} {o b r U : Nat} {N : Nat → Nat} (h : ClO I o N) (hM : MoO X b r N) (hU : U < 256) : fX1_pairsAmong I o (nI U) = fX4_pairs X b (nI U) := by
  unfold fX1_pairsAmong fX4_pairs
  refine lp_cong rfl (fun i z hi => ?_)
  simp only [fb_isIn U hU i hi, fb_has U hU i hi, (h i hi).2.2.1, (hM i hi).2, fa_and]
  by_cases q : U.testBit i = true
  · rw [if_pos q, if_pos q, fb_cnt _ (m_and (h i hi).2.2.2)]
  · rw [if_neg q, if_neg q, nI_0, Int32.add_zero]
def pcN (v : Nat) : Nat := (fX4_size (nI v)).toNatClampNeg
theorem pcN_spec : ∀ v, v < 256 → fX4_size (nI v) = nI (pcN v) ∧ pcN v ≤ 8 ∧ (pcN v = 0 ↔ v = 0) := by decide +kernel
/-- no pairs in a set: each is a first one -/
theorem nopair {I X : hm_I} {o b r U : Nat} {N : Nat → Nat} (h : ClO I o N) (hM : MoO X b r N) (hU : U < 256) : fX4_pairs X b (nI U) = 0 ↔ fX1_firstOf I o (nI U) = nI U := by
  have h1 := fstN_spec (clo N) hU
  rw [first_X h hU, nI_eq (Nat.lt_trans h1.1 (by decide)) (Nat.lt_trans hU (by decide))]
  have key := lq_rel (n := 8) (f := fun i4 x4 => if fX4_has (nI U) (nI i4) = true then x4 + (fX4_size ((X (b + 4) i4) &&& nI U)) else x4 + (nI 0)) (g := fun i n => if U.testBit i = true then n + pcN (clo N i &&& U) else n) (x := nI 0) (y := 0)
    (fun k x y => x = nI y ∧ y ≤ 8 * k ∧ (y = 0 ↔ ∀ a, a < k → U.testBit a = true → clo N a &&& U = 0)) ⟨rfl, Nat.le_refl 0, ⟨fun _ a ha => absurd ha (Nat.not_lt_zero a), fun _ => rfl⟩⟩ (fun i u v hi huv => ?_)
  · obtain ⟨k1, k2, k3⟩ := key
    unfold fX4_pairs
    rw [k1, ← nI_0, nI_eq (by omega) (by decide), k3]
    constructor
    · intro hz
      refine m_ext h1.1 hU (fun j hj => ?_)
      rw [h1.2 j hj]
      have : exB (fun i => U.testBit i && (clo N i).testBit j) = true → U.testBit j = true → False := fun q1 q2 => by
        obtain ⟨a, ha, h3⟩ := (exB_iff _).mp q1
        rw [Bool.and_eq_true] at h3
        have h4 := hz a ha h3.1
        have h5 : (clo N a &&& U).testBit j = true := by rw [Nat.testBit_and, h3.2, q2]; rfl
        rw [h4, Nat.zero_testBit] at h5
        exact absurd h5 (by decide)
      cases e1 : U.testBit j
      · rfl
      · cases e2 : exB (fun i => U.testBit i && (clo N i).testBit j)
        · rfl
        · exact (this e2 e1).elim
    · intro hz a ha hua
      rw [m_zero (m_and (h a ha).2.2.2)]
      intro j hj
      rw [Nat.testBit_and]
      have h3 := h1.2 j hj
      rw [hz] at h3
      cases e1 : U.testBit j
      · rw [Bool.and_false]
      · rw [e1, Bool.true_and] at h3
        cases e2 : (clo N a).testBit j
        · rfl
        · have : exB (fun i => U.testBit i && (clo N i).testBit j) = true := (exB_iff _).mpr ⟨a, ha, by rw [hua, e2]; rfl⟩
          rw [this] at h3
          exact absurd h3 (by decide)
  · obtain ⟨u1, u2, u3⟩ := huv
    have hp := pcN_spec (clo N i &&& U) (m_and (h i hi).2.2.2)
    simp only [fb_has U hU i hi, (hM i hi).2, fa_and, u1]
    by_cases q : U.testBit i = true
    · rw [if_pos q, if_pos q, hp.1, nI_add]
      refine ⟨rfl, by omega, ⟨fun hz a ha hua => ?_, fun hz => ?_⟩⟩
      · by_cases e : a = i
        · subst e; exact hp.2.2.mp (by omega)
        · exact u3.mp (by omega) a (by omega) hua
      · have := u3.mpr (fun a ha hua => hz a (by omega) hua)
        have := hp.2.2.mpr (hz i (by omega) q)
        omega
    · rw [if_neg q, if_neg q, nI_0, Int32.add_zero]
      refine ⟨rfl, by omega, ⟨fun hz a ha hua => ?_, fun hz => u3.mpr (fun a ha hua => hz a (by omega) hua)⟩⟩
      by_cases e : a = i
      · subst e; exact absurd hua q
      · exact u3.mp hz a (by omega) hua
theorem widest_eq {I X : hm_I} {o b r U : Nat} {N : Nat → Nat} (h : ClO I o N) (hM : MoO X b r N) : fX1_widestChoiceAmong I o (nI U) = fX4_widest X b (nI U) := by
  unfold fX1_widestChoiceAmong fX4_widest
  refine lp_cong rfl (fun i z hi => ?_)
  by_cases q : (nI i) &&& (nI U ^^^ (-1)) = 0
  · rw [if_pos q, if_pos q, fb_cnt i hi]
    by_cases q1 : fX4_size (nI i) ≤ z
    · rw [if_pos q1]
      by_cases q2 : fX4_pairs X b (nI i) = 0
      · rw [if_pos q2, if_pos q1]
      · rw [if_neg q2]
    · rw [if_neg q1]
      by_cases q2 : fX4_pairs X b (nI i) = 0
      · rw [if_pos q2, if_pos ((nopair h hM hi).mp q2), if_neg q1]
      · rw [if_neg q2, if_neg (fun q3 => q2 ((nopair h hM hi).mpr q3))]
  · rw [if_neg q, if_neg q]
theorem edges_eq {I X : hm_I} {o b r : Nat} {N : Nat → Nat} (h : ∀ a, a < 8 → I (o + 1) a = nI (N a) ∧ N a < 256) (hM : ∀ a, a < 8 → X (b + 1) (r + a) = nI (N a)) : fX1_edgeCount I o = fX4_edges X b r := by
  unfold fX1_edgeCount fX4_edges
  refine lp_cong rfl (fun i z hi => ?_)
  simp only [(h i hi).1, hM i hi, fb_cnt _ (h i hi).2]
theorem lpr_ex {g : Nat → Unit → Bool ⊕ Unit} {P : Nat → Bool} (h : ∀ i, i < 8 → g i () = if P i = true then .inl true else .inr ()) : lpr g (fun _ => false) 8 0 () = exB P := by
  have key : ∀ r i, i + r = 8 → lp i (fun i x => x || P i) false = false → lpr g (fun _ => false) r i () = exB P := by
    intro r
    induction r with
    | zero =>
      intro i hi h0
      have e : i = 8 := by omega
      subst e
      exact h0.symm
    | succ r ih =>
      intro i hi h0
      by_cases q : P i = true
      · rw [lpr_l ((h i (by omega)).trans (if_pos q))]
        exact ((exB_iff P).mpr ⟨i, by omega, q⟩).symm
      · rw [lpr_r ((h i (by omega)).trans (if_neg q))]
        refine ih (i + 1) (by omega) ?_
        rw [lp_s, h0]
        simpa using q
  exact key 8 0 (by omega) rfl
theorem sz_bit : ∀ u, u < 256 → ∀ i, i < 8 → ((nI u >>> ((nI i) &&& 31)) &&& (nI 1)) = if u.testBit i = true then nI 1 else nI 0 := by decide +kernel
theorem edge_t {I : hm_I} {o : Nat} {N : Nat → Nat} (h : ClO I o N) {x y : Nat} (hx : x < 8) (hy : y < 8) : fX1_hasEdge_t I o x y = (N x).testBit y := by
  unfold fX1_hasEdge_t
  rw [(h x hx).1, fb_isIn _ (h x hx).2.1 y hy, bI_ite]
theorem pre_t {I : hm_I} {o : Nat} {N : Nat → Nat} (h : ClO I o N) {x y : Nat} (hx : x < 8) (hy : y < 8) : fX1_precedes_t I o x y = (clo N x).testBit y := by
  unfold fX1_precedes_t
  rw [(h x hx).2.2.1, fb_isIn _ (h x hx).2.2.2 y hy, bI_ite]
theorem needless_eq {I X : hm_I} {o b r : Nat} {N : Nat → Nat} (h : ClO I o N) (hM : MoO X b r N) : fX1_needlessEdges I o = fX4_superfluous X b r := by
  unfold fX1_needlessEdges fX4_superfluous
  refine lp_cong rfl (fun a z ha => ?_)
  have hl := latN_spec (C := clo N) (fun i hi => (h i hi).2.2.2) (N a)
  rw [(hM a ha).1, late_M hM (h a ha).2.1, fa_and]
  have hM256 : N a &&& latN (clo N) (N a) < 256 := m_and (h a ha).2.1
  unfold fX4_size
  have key : ∀ n, n ≤ 8 → lp n (fun i12 x12 => if fX1_hasEdge_t I o a i12 = true then if fX1_isPrecededByNextOf I o a i12 = true then x12 + 1 else x12 else x12) z = z + lp n (fun i4 x4 => x4 + (((nI (N a &&& latN (clo N) (N a))) >>> ((nI i4) &&& 31)) &&& (nI 1))) (nI 0) := by
    intro n hn
    induction n with
    | zero => rw [lp_0, lp_0, nI_0, Int32.add_zero]
    | succ n ih =>
      have hn8 : n < 8 := by omega
      rw [lp_s, lp_s, ih (by omega), sz_bit _ hM256 n hn8, edge_t h ha hn8, Nat.testBit_and, hl.2 n hn8]
      have e : fX1_isPrecededByNextOf I o a n = exB (fun i => (N a).testBit i && (clo N i).testBit n) := by
        unfold fX1_isPrecededByNextOf
        refine lpr_ex (fun i hi => ?_)
        simp only [edge_t h ha hi, pre_t h hi hn8]
        by_cases q1 : (N a).testBit i = true
        · rw [if_pos q1, q1, Bool.true_and]
        · have q1' : (N a).testBit i = false := by simpa using q1
          rw [if_neg q1, q1', Bool.false_and, if_neg (by decide)]
      rw [e]
      by_cases q1 : (N a).testBit n = true
      · rw [if_pos q1, q1, Bool.true_and]
        by_cases q2 : exB (fun i => (N a).testBit i && (clo N i).testBit n) = true
        · rw [if_pos q2, if_pos q2, Int32.add_assoc]; rfl
        · rw [if_neg q2, if_neg q2, nI_0, Int32.add_zero]
      · have q1' : (N a).testBit n = false := by simpa using q1
        rw [if_neg q1, q1', Bool.false_and, if_neg (by decide), nI_0, Int32.add_zero]
  exact key 8 (Nat.le_refl 8)
