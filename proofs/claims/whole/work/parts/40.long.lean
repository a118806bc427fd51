/-! part 40: the longest chain: layers taken off against lengths counted -/
def lev (C : Nat → Nat) (U i : Nat) : Nat := lp i (fun _ x => x &&& (255 ^^^ fstN C x)) U
theorem lev_s (C : Nat → Nat) (U i : Nat) : lev C U (i + 1) = lev C U i &&& (255 ^^^ fstN C (lev C U i)) := rfl
theorem lev_lt (C : Nat → Nat) {U : Nat} (hU : U < 256) : ∀ i, lev C U i < 256 := by
  intro i
  induction i with
  | zero => exact hU
  | succ i ih => rw [lev_s]; exact m_and ih
theorem lev_tb (C : Nat → Nat) {U : Nat} (hU : U < 256) (i : Nat) {j : Nat} (hj : j < 8) : (lev C U (i + 1)).testBit j = ((lev C U i).testBit j && exB (fun a => (lev C U i).testBit a && (C a).testBit j)) := by
  rw [lev_s, Nat.testBit_and, tb_not hj, (fstN_spec C (lev_lt C hU i)).2 j hj]
  cases (lev C U i).testBit j <;> cases exB (fun a => (lev C U i).testBit a && (C a).testBit j) <;> rfl
theorem lev_dn (C : Nat → Nat) {U : Nat} (hU : U < 256) {j : Nat} (hj : j < 8) : ∀ i, (lev C U i).testBit j = true → ∀ i', i' ≤ i → (lev C U i').testBit j = true := by
  intro i
  induction i with
  | zero =>
    intro h i' hi'
    have e : i' = 0 := by omega
    subst e
    exact h
  | succ i ih =>
    intro h i' hi'
    by_cases e : i' = i + 1
    · subst e; exact h
    · rw [lev_tb C hU i hj, Bool.and_eq_true] at h
      exact ih h.1 i' (by omega)
/-- what stands behind a stream of the layers under n stands in those under n + 1 -/
theorem lev_up (C : Nat → Nat) {U : Nat} (hU : U < 256) {a j : Nat} (ha : a < 8) (hj : j < 8) (hju : U.testBit j = true) (hc : (C a).testBit j = true) {n : Nat} (h : ∀ i, i < n → (lev C U i).testBit a = true) : ∀ i, i < n + 1 → (lev C U i).testBit j = true := by
  intro i
  induction i with
  | zero => intro _; exact hju
  | succ i ih =>
    intro hi
    rw [lev_tb C hU i hj, ih (by omega), Bool.true_and]
    exact (exB_iff _).mpr ⟨a, ha, by rw [h i (by omega), hc]; rfl⟩
def cnt8 (P : Nat → Bool) : Nat := (P 0).toNat + (P 1).toNat + (P 2).toNat + (P 3).toNat + (P 4).toNat + (P 5).toNat + (P 6).toNat + (P 7).toNat
theorem b_le1 (b : Bool) : b.toNat ≤ 1 := by cases b <;> decide
theorem b_mono {a b : Bool} (h : a = true → b = true) : a.toNat ≤ b.toNat := by
  cases a
  · exact Nat.zero_le _
  · rw [h rfl]; exact Nat.le_refl _
theorem cnt8_le (P : Nat → Bool) : cnt8 P ≤ 8 := by
  have h0 := b_le1 (P 0)
  have h1 := b_le1 (P 1)
  have h2 := b_le1 (P 2)
  have h3 := b_le1 (P 3)
  have h4 := b_le1 (P 4)
  have h5 := b_le1 (P 5)
  have h6 := b_le1 (P 6)
  have h7 := b_le1 (P 7)
  unfold cnt8
  omega
theorem cnt8_lt {P Q : Nat → Bool} (h : ∀ j, j < 8 → P j = true → Q j = true) {j : Nat} (hj : j < 8) (hq : Q j = true) (hp : P j = false) : cnt8 P < cnt8 Q := by
  have h0 := b_mono (h 0 (by omega))
  have h1 := b_mono (h 1 (by omega))
  have h2 := b_mono (h 2 (by omega))
  have h3 := b_mono (h 3 (by omega))
  have h4 := b_mono (h 4 (by omega))
  have h5 := b_mono (h 5 (by omega))
  have h6 := b_mono (h 6 (by omega))
  have h7 := b_mono (h 7 (by omega))
  have e1 : (Q j).toNat = 1 := by rw [hq]; rfl
  have e2 : (P j).toNat = 0 := by rw [hp]; rfl
  unfold cnt8
  have e : j = 0 ∨ j = 1 ∨ j = 2 ∨ j = 3 ∨ j = 4 ∨ j = 5 ∨ j = 6 ∨ j = 7 := by omega
  rcases e with e | e | e | e | e | e | e | e <;> subst e <;> omega
theorem lev_cnt {N : Nat → Nat} (hN : Acy N) {U : Nat} (hU : U < 256) : ∀ i, cnt8 (fun j => (lev (clo N) U i).testBit j) ≤ 8 - i := by
  intro i
  induction i with
  | zero => exact cnt8_le _
  | succ i ih =>
    by_cases h : ∃ s, s < 8 ∧ (lev (clo N) U i).testBit s = true
    · obtain ⟨s, hs, h1, h2⟩ := ex_first hN (fun s => (lev (clo N) U i).testBit s = true) 8 (Nat.le_refl 8) h
      have : cnt8 (fun j => (lev (clo N) U (i + 1)).testBit j) < cnt8 (fun j => (lev (clo N) U i).testBit j) := by
        refine cnt8_lt (fun j hj hq => lev_dn (clo N) hU hj (i + 1) hq i (Nat.le_succ i)) hs h1 ?_
        show (lev (clo N) U (i + 1)).testBit s = false
        rw [lev_tb (clo N) hU i hs, h1, Bool.true_and]
        cases e : exB (fun a => (lev (clo N) U i).testBit a && (clo N a).testBit s)
        · rfl
        · obtain ⟨a, ha, h3⟩ := (exB_iff _).mp e
          rw [Bool.and_eq_true] at h3
          exact absurd h3.2 (h2 a ha h3.1)
      omega
    · have hz : ∀ s, s < 8 → (lev (clo N) U (i + 1)).testBit s = false := fun s hs => by
        cases e : (lev (clo N) U (i + 1)).testBit s
        · rfl
        · exact absurd ⟨s, hs, lev_dn (clo N) hU hs (i + 1) e i (Nat.le_succ i)⟩ h
      unfold cnt8
      simp only [hz 0 (by omega), hz 1 (by omega), hz 2 (by omega), hz 3 (by omega), hz 4 (by omega), hz 5 (by omega), hz 6 (by omega), hz 7 (by omega)]
      exact Nat.zero_le _
theorem lev_8 {N : Nat → Nat} (hN : Acy N) {U : Nat} (hU : U < 256) : ∀ j, j < 8 → (lev (clo N) U 8).testBit j = false := by
  intro j hj
  cases e : (lev (clo N) U 8).testBit j
  · rfl
  · have h1 := lev_cnt hN hU 8
    have h2 : cnt8 (fun _ => false) < cnt8 (fun j => (lev (clo N) U 8).testBit j) := cnt8_lt (fun _ _ h => absurd h (by decide)) hj e rfl
    have h3 : cnt8 (fun _ => false) = 0 := rfl
    omega
theorem lev_z {C : Nat → Nat} {U : Nat} (hU : U < 256) (i : Nat) : lev C U i = 0 ↔ ∀ j, j < 8 → (lev C U i).testBit j = false := m_zero (lev_lt C hU i)
theorem lev_nz {C : Nat → Nat} {U : Nat} (hU : U < 256) {i : Nat} (h : ¬ lev C U i = 0) : ∃ j, j < 8 ∧ (lev C U i).testBit j = true := by
  rcases Classical.em (∃ j, j < 8 ∧ (lev C U i).testBit j = true) with q | q
  · exact q
  · exfalso
    refine h ((lev_z hU i).mpr (fun j hj => ?_))
    cases e : (lev C U i).testBit j
    · rfl
    · exact absurd ⟨j, hj, e⟩ q
theorem long_X {I : hm_I} {o U : Nat} {N : Nat → Nat} (h : ClO I o N) (hN : Acy N) (hU : U < 256) : ∃ k, k ≤ 8 ∧ fX1_longestChainAmong I o (nI U) = nI k ∧ (∀ i, i < k → ¬ lev (clo N) U i = 0) ∧ lev (clo N) U k = 0 := by
  unfold fX1_longestChainAmong
  have key : ∀ r i, i + r = 8 → (∀ i', i' < i → ¬ lev (clo N) U i' = 0) → ∃ k, k ≤ 8 ∧ lpr (fun (i4 : Nat) (x4 : Int32) => (if x4 = 0 then Sum.inl (nI i4) else Sum.inr (x4 &&& ((fX1_firstOf I o x4) ^^^ (-1))) : Int32 ⊕ (Int32))) (fun (x4 : Int32) => (if x4 = 0 then nI 8 else nI 8 : Int32)) r i (nI (lev (clo N) U i)) = nI k ∧ (∀ i, i < k → ¬ lev (clo N) U i = 0) ∧ lev (clo N) U k = 0 := by
    intro r
    induction r with
    | zero =>
      intro i hi hlo
      have e : i = 8 := by omega
      subst e
      refine ⟨8, Nat.le_refl 8, ?_, hlo, (lev_z hU 8).mpr (lev_8 hN hU)⟩
      rw [lpr_0]
      by_cases q : nI (lev (clo N) U 8) = 0
      · rw [if_pos q]
      · rw [if_neg q]
    | succ r ih =>
      intro i hi hlo
      have hl := lev_lt (clo N) hU i
      by_cases q : lev (clo N) U i = 0
      · refine ⟨i, by omega, ?_, hlo, q⟩
        rw [q, lpr_l (v := nI i) (by rw [nI_0, if_pos rfl])]
      · have hne : ¬ nI (lev (clo N) U i) = 0 := nI_ne0 (by omega) (by omega)
        rw [lpr_r (y := nI (lev (clo N) U (i + 1))) (by rw [if_neg hne, first_X h hl, fb_not hl]; rfl)]
        exact ih (i + 1) (by omega) (fun i' hi' => by
          by_cases e : i' = i
          · subst e; exact q
          · exact hlo i' (by omega))
  exact key 8 0 (by omega) (fun i hi => absurd hi (Nat.not_lt_zero i))
theorem lpr_inv {σ ρ : Type} {g : Nat → σ → ρ ⊕ σ} {d : σ → ρ} {n : Nat} {x : σ} (P : Nat → σ → Prop) (h0 : P 0 x) (hs : ∀ i u, i < n → P i u → ∃ u', g i u = .inr u' ∧ P (i + 1) u') : ∃ u, P n u ∧ lpr g d n 0 x = d u := by
  have key : ∀ r i u, i + r = n → P i u → ∃ u', P n u' ∧ lpr g d r i u = d u' := by
    intro r
    induction r with
    | zero =>
      intro i u hi hu
      have e : i = n := by omega
      subst e
      exact ⟨u, hu, rfl⟩
    | succ r ih =>
      intro i u hi hu
      obtain ⟨u', e, hu'⟩ := hs i u (by omega) hu
      obtain ⟨u2, h1, h2⟩ := ih (i + 1) u' (by omega) hu'
      exact ⟨u2, h1, by rw [lpr_r e]; exact h2⟩
  exact key n 0 x (by omega) h0
/-- what holds within round r, when bb streams are through -/
def lgJ (X : hm_I) (b U : Nat) (C : Nat → Nat) (r bb : Nat) (y : hm_I × Int32) : Prop := ∃ (ch : Nat → Nat) (M : Nat), (∀ z k, z ≠ b + 7 → y.1 z k = X z k) ∧ y.2 = nI M ∧ (∀ a, a < 8 → (0 < r ∨ a < bb) → y.1 (b + 7) a = nI (ch a)) ∧
  (∀ a, a < 8 → (0 < r ∨ a < bb) → ∀ i, i < ch a → (lev C U i).testBit a = true) ∧ (∀ a, a < 8 → a < bb → ∀ i, i ≤ r → (lev C U i).testBit a = true → i < ch a) ∧ (∀ a, a < 8 → bb ≤ a → ∀ i, i < r → (lev C U i).testBit a = true → i < ch a) ∧
  (∀ i, i < M → ∃ a, a < 8 ∧ (lev C U i).testBit a = true) ∧ (∀ a, a < 8 → (0 < r ∨ a < bb) → ch a ≤ M) ∧ M ≤ 8
theorem lg_put {X : hm_I} {b U r bb : Nat} {C : Nat → Nat} {y : hm_I × Int32} {ch : Nat → Nat} {M V : Nat} (hbb : bb < 8) (hy1 : ∀ z k, z ≠ b + 7 → y.1 z k = X z k) (hM8 : M ≤ 8) (hV8 : V ≤ 8) (hch : ∀ a, a < 8 → (0 < r ∨ a < bb) → y.1 (b + 7) a = nI (ch a))
    (hS : ∀ a, a < 8 → (0 < r ∨ a < bb) → ∀ i, i < ch a → (lev C U i).testBit a = true) (hC1 : ∀ a, a < 8 → a < bb → ∀ i, i ≤ r → (lev C U i).testBit a = true → i < ch a) (hC2 : ∀ a, a < 8 → bb ≤ a → ∀ i, i < r → (lev C U i).testBit a = true → i < ch a)
    (hMs : ∀ i, i < M → ∃ a, a < 8 ∧ (lev C U i).testBit a = true) (hMc : ∀ a, a < 8 → (0 < r ∨ a < bb) → ch a ≤ M) (hVS : ∀ i, i < V → (lev C U i).testBit bb = true) (hVC : ∀ i, i ≤ r → (lev C U i).testBit bb = true → i < V) :
    lgJ X b U C r (bb + 1) (hm_put y.1 (b + 7) bb (nI V), nI (max M V)) := by
  refine ⟨fun a => if a = bb then V else ch a, max M V, fun z k hz => ?_, rfl, fun a ha h => ?_, fun a ha h i hi => ?_, fun a ha h i hi hl => ?_, fun a ha h i hi hl => ?_, fun i hi => ?_, fun a ha h => ?_, Nat.max_le.mpr ⟨hM8, hV8⟩⟩
  · show hm_put y.1 (b + 7) bb (nI V) z k = _
    rw [hp_n (Or.inl hz)]; exact hy1 z k hz
  · show hm_put y.1 (b + 7) bb (nI V) (b + 7) a = _
    by_cases e : a = bb
    · subst e; rw [hm_put_at]; simp
    · rw [hp_n (Or.inr e)]; simp only [if_neg e]; exact hch a ha (by omega)
  · by_cases e : a = bb
    · subst e; simp only [if_true] at hi; exact hVS i hi
    · simp only [if_neg e] at hi; exact hS a ha (by omega) i hi
  · by_cases e : a = bb
    · subst e; simp only [if_true]; exact hVC i hi hl
    · simp only [if_neg e]; exact hC1 a ha (by omega) i hi hl
  · have e : ¬ a = bb := by omega
    simp only [if_neg e]
    exact hC2 a ha (by omega) i hi hl
  · rcases Nat.lt_or_ge i M with q | q
    · exact hMs i q
    · exact ⟨bb, hbb, hVS i (by
        rcases Nat.le_total M V with z | z
        · rw [Nat.max_eq_right z] at hi; exact hi
        · rw [Nat.max_eq_left z] at hi; omega)⟩
  · by_cases e : a = bb
    · simp only [if_pos e]; exact Nat.le_max_right _ _
    · simp only [if_neg e]; exact Nat.le_trans (hMc a ha (by omega)) (Nat.le_max_left _ _)
theorem lg_step {X : hm_I} {b rr U r bb : Nat} {N : Nat → Nat} (hC : ∀ i, i < 8 → clo N i < 256) (hM0 : MoO X b rr N) (hN : Acy N) (hU : U < 256) (hbb : bb < 8) (x4 : hm_I × Int32) {y : hm_I × Int32} (hJ : lgJ X b U (clo N) r bb y) : lgJ X b U (clo N) r (bb + 1) (fX4_longest_L13 X b (nI U) r x4 bb y) := by
  obtain ⟨ch, M, hy1, hyM, hch, hS, hC1, hC2, hMs, hMc, hM8⟩ := hJ
  have l8 := lev_8 hN hU
  unfold fX4_longest_L13
  rw [fb_has U hU bb hbb]
  by_cases hu : U.testBit bb = true
  · rw [if_pos hu]
    have hst : ∀ (k : Nat) (x : Int32), k < 8 → (∃ V, x = nI V ∧ 1 ≤ V ∧ (∀ i, i < V → (lev (clo N) U i).testBit bb = true) ∧ ∀ a, a < k → 0 < r → U.testBit a = true → (clo N a).testBit bb = true → ch a + 1 ≤ V) →
        ∃ x', fX4_longest_L39 X b (nI U) r x4 bb y k x = .inr x' ∧ ∃ V, x' = nI V ∧ 1 ≤ V ∧ (∀ i, i < V → (lev (clo N) U i).testBit bb = true) ∧ ∀ a, a < k + 1 → 0 < r → U.testBit a = true → (clo N a).testBit bb = true → ch a + 1 ≤ V := by
      intro k x hk hx
      obtain ⟨V, e, hV1, hVS, hVa⟩ := hx
      have hV8 : V ≤ 8 := by
        rcases Nat.lt_or_ge 8 V with q | q
        · have h1 := hVS 8 q
          rw [l8 bb hbb] at h1
          exact absurd h1 (by decide)
        · exact q
      unfold fX4_longest_L39
      rw [e, if_neg (nI_nle (show 0 < V by omega) (by omega))]
      by_cases q0 : r = 0
      · rw [if_pos q0]
        exact ⟨_, rfl, V, rfl, hV1, hVS, fun a ha hr => by omega⟩
      rw [if_neg q0, fb_has U hU k hk]
      by_cases q1 : U.testBit k = true
      · rw [if_pos q1, hy1 _ _ (by omega), (hM0 k hk).2, fb_has _ (hC k hk) bb hbb]
        by_cases q2 : (clo N k).testBit bb = true
        · have hs := hS k hk (Or.inl (by omega))
          have hup := lev_up (clo N) hU hk hbb hu q2 hs
          have hc8 : ch k + 1 ≤ 8 := by
            rcases Nat.lt_or_ge 8 (ch k + 1) with q | q
            · have h1 := hup 8 q
              rw [l8 bb hbb] at h1
              exact absurd h1 (by decide)
            · exact q
          rw [if_pos q2, hch k hk (Or.inl (by omega)), nI_add]
          by_cases q3 : ch k + 1 ≤ V
          · rw [if_pos (nI_le q3 (by omega))]
            refine ⟨_, rfl, V, rfl, hV1, hVS, fun a ha hr hua hca => ?_⟩
            by_cases ea : a = k
            · subst ea; exact q3
            · exact hVa a (by omega) hr hua hca
          · rw [if_neg (nI_ge (by omega) (by omega))]
            refine ⟨_, rfl, ch k + 1, rfl, by omega, hup, fun a ha hr hua hca => ?_⟩
            by_cases ea : a = k
            · subst ea; exact Nat.le_refl _
            · have := hVa a (by omega) hr hua hca
              omega
        · rw [if_neg q2]
          refine ⟨_, rfl, V, rfl, hV1, hVS, fun a ha hr hua hca => ?_⟩
          by_cases ea : a = k
          · subst ea; exact absurd hca q2
          · exact hVa a (by omega) hr hua hca
      · rw [if_neg q1]
        refine ⟨_, rfl, V, rfl, hV1, hVS, fun a ha hr hua hca => ?_⟩
        by_cases ea : a = k
        · subst ea; exact absurd hua q1
        · exact hVa a (by omega) hr hua hca
    obtain ⟨x, ⟨V, hx, hV1, hVS, hVa⟩, he⟩ := lpr_inv (g := fX4_longest_L39 X b (nI U) r x4 bb y) (d := fun (x39 : Int32) => (if x39 ≤ y.2 then (hm_put y.1 (b + 7) bb x39, y.2) else (hm_put y.1 (b + 7) bb x39, x39) : hm_I × Int32)) (n := 8) (x := nI 1)
      (fun k x => ∃ V, x = nI V ∧ 1 ≤ V ∧ (∀ i, i < V → (lev (clo N) U i).testBit bb = true) ∧ ∀ a, a < k → 0 < r → U.testBit a = true → (clo N a).testBit bb = true → ch a + 1 ≤ V)
      ⟨1, rfl, Nat.le_refl 1, fun i hi => by
        have e : i = 0 := by omega
        subst e; exact hu, fun a ha => absurd ha (Nat.not_lt_zero a)⟩ hst
    have hV8 : V ≤ 8 := by
      rcases Nat.lt_or_ge 8 V with q | q
      · have h1 := hVS 8 q
        rw [l8 bb hbb] at h1
        exact absurd h1 (by decide)
      · exact q
    have hVC : ∀ i, i ≤ r → (lev (clo N) U i).testBit bb = true → i < V := by
      intro i hi hl
      cases i with
      | zero => omega
      | succ i =>
        rw [lev_tb (clo N) hU i hbb, Bool.and_eq_true] at hl
        obtain ⟨a, ha, h3⟩ := (exB_iff _).mp hl.2
        rw [Bool.and_eq_true] at h3
        have h4 : i < ch a := by
          rcases Nat.lt_or_ge a bb with q | q
          · exact hC1 a ha q i (by omega) h3.1
          · exact hC2 a ha q i (by omega) h3.1
        have h5 := hVa a ha (by omega) (lev_dn (clo N) hU ha i h3.1 0 (Nat.zero_le i)) h3.2
        omega
    rw [he, hx, hyM]
    have hput := lg_put (V := V) (y := y) hbb hy1 hM8 hV8 hch hS hC1 hC2 hMs hMc hVS hVC
    by_cases q : V ≤ M
    · rw [if_pos (nI_le q (by omega))]
      rw [Nat.max_eq_left q] at hput; exact hput
    · rw [if_neg (nI_ge (by omega) (by omega))]
      rw [Nat.max_eq_right (by omega)] at hput; exact hput
  · rw [if_neg hu]
    have h0 : fX4_longest_L39 X b (nI U) r x4 bb y 0 (nI 0) = .inl (hm_put y.1 (b + 7) bb (nI 0), nI M) := by
      unfold fX4_longest_L39
      rw [hyM, if_pos (show nI 0 ≤ 0 by decide), if_pos (nI_le (Nat.zero_le M) (by omega))]
    rw [lpr_l h0]
    have hput := lg_put (V := 0) (y := y) hbb hy1 hM8 (Nat.zero_le 8) hch hS hC1 hC2 hMs hMc (fun i hi => absurd hi (Nat.not_lt_zero i)) (fun i hi hl => absurd (lev_dn (clo N) hU hbb i hl 0 (Nat.zero_le i)) hu)
    rw [Nat.max_eq_left (Nat.zero_le M)] at hput
    exact hput
theorem long_eq {I X : hm_I} {o b rr U : Nat} {N : Nat → Nat} (h : ClO I o N) (hM0 : MoO X b rr N) (hN : Acy N) (hU : U < 256) :
    fX1_longestChainAmong I o (nI U) = (fX4_longest X b (nI U)).1 ∧ ∀ z k, z ≠ b + 7 → (fX4_longest X b (nI U)).2 z k = X z k := by
  have hC : ∀ i, i < 8 → clo N i < 256 := fun i hi => (h i hi).2.2.2
  obtain ⟨k, hk8, hk, hklo, hkz⟩ := long_X h hN hU
  have key := lp_inv (n := 8) (f := fun i4 (x4 : hm_I × Int32) => ((lp 8 (fun i13 x13 => fX4_longest_L13 X b (nI U) i4 x4 i13 x13) (x4.1, x4.2)).1, (lp 8 (fun i13 x13 => fX4_longest_L13 X b (nI U) i4 x4 i13 x13) (x4.1, x4.2)).2)) (x := (X, nI 0)) (fun r y => lgJ X b U (clo N) r 0 y)
    ⟨fun _ => 0, 0, fun _ _ _ => rfl, rfl, fun a _ q => by omega, fun a _ q => by omega, fun a _ q => by omega, fun a _ _ i hi => absurd hi (Nat.not_lt_zero i), fun i hi => absurd hi (Nat.not_lt_zero i), fun a _ q => by omega, Nat.zero_le 8⟩ (fun r y hr hy => ?_)
  · obtain ⟨ch, M, hy1, hyM, hch, hS, hC1, hC2, hMs, hMc, hM8⟩ := key
    refine ⟨?_, hy1⟩
    rw [hk]
    show nI k = (lp 8 _ (X, nI 0)).2
    rw [hyM]
    have e : k = M := by
      rcases Nat.lt_or_ge k M with q | q
      · obtain ⟨a, ha, h1⟩ := hMs k q
        rw [hkz, Nat.zero_testBit] at h1
        exact absurd h1 (by decide)
      · rcases Nat.lt_or_ge M k with q2 | q2
        · obtain ⟨a, ha, h1⟩ := lev_nz hU (hklo M q2)
          have h2 := hC2 a ha (Nat.zero_le a) M (by omega) h1
          have h3 := hMc a ha (Or.inl (by omega))
          omega
        · omega
    rw [e]
  · have inner := lp_inv (n := 8) (f := fun i13 x13 => fX4_longest_L13 X b (nI U) r y i13 x13) (x := (y.1, y.2)) (fun bb z => lgJ X b U (clo N) r bb z) hy (fun bb z hbb hz => lg_step hC hM0 hN hU hbb y hz)
    obtain ⟨ch, M, hy1, hyM, hch, hS, hC1, hC2, hMs, hMc, hM8⟩ := inner
    exact ⟨ch, M, hy1, hyM, fun a ha _ => hch a ha (Or.inr ha), fun a ha _ => hS a ha (Or.inr ha), fun a _ q => absurd q (Nat.not_lt_zero a), fun a ha _ i hi hl => hC1 a ha ha i (by omega) hl, hMs, fun a ha _ => hMc a ha (Or.inr ha), hM8⟩
