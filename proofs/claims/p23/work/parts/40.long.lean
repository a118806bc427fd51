/-! part 40: the longest chain: layers taken off against lengths counted -/
def lev (C : Nat → Nat) (U i : Nat) : Nat := lp i (fun _ x => x &&& (255 ^^^ fstN C x)) U
theorem lev_s (C : Nat → Nat) (U i : Nat) : lev C U (i + 1) = lev C U i &&& (255 ^^^ fstN C (lev C U i)) := rfl
theorem lev_lt (C : Nat → Nat) {U : Nat} (hU : U < 256) : ∀ i, lev C U i < 256 := by
  intro i
  induction i with
  | zero => exact hU
  | succ i ih => rw [lev_s]; exact m_and ih
theorem lev_tb (C : Nat → Nat) {U : Nat} (hU : U < 256) (i : Nat) {j : Nat} (hj : j < 8) : (lev C U (i + 1)).testBit j = ((lev C U i).testBit j && exB (fun a => (lev C U i).testBit a && (C a).testBit j)) := by
  rw [lev_s, Nat.testBit_and, tb_not hj, (fstN_spec C (lev_lt C hU i)).2 j hj]
  cases (lev C U i).testBit j <;> cases exB (fun a => (lev C U i).testBit a && (C a).testBit j) <;> rfl
theorem lev_dn (C : Nat → Nat) {U : Nat} (hU : U < 256) {j : Nat} (hj : j < 8) : ∀ i, (lev C U i).testBit j = true → ∀ i', i' ≤ i → (lev C U i').testBit j = true := by
  intro i
  induction i with
  | zero =>
    intro h i' hi'
    have e : i' = 0 := by omega
    subst e
    exact h
  | succ i ih =>
    intro h i' hi'
    by_cases e : i' = i + 1
    · subst e; exact h
    · rw [lev_tb C hU i hj, Bool.and_eq_true] at h
      exact ih h.1 i' (by omega)
/-- what stands behind a stream of the layers under n stands in those under n + 1 -/
theorem lev_up (C : Nat → Nat) {U : Nat} (hU : U < 256) {a j : Nat} (ha : a < 8) (hj : j < 8) (hju : U.testBit j = true) (hc : (C a).testBit j = true) {n : Nat} (h : ∀ i, i < n → (lev C U i).testBit a = true) : ∀ i, i < n + 1 → (lev C U i).testBit j = true := by
  intro i
  induction i with
  | zero => intro _; exact hju
  | succ i ih =>
    intro hi
    rw [lev_tb C hU i hj, ih (by omega), Bool.true_and]
    exact (exB_iff _).mpr ⟨a, ha, by rw [h i (by omega), hc]; rfl⟩
def cnt8 (P : Nat → Bool) : Nat := (P 0).toNat + (P 1).toNat + (P 2).toNat + (P 3).toNat + (P 4).toNat + (P 5).toNat + (P 6).toNat + (P 7).toNat
theorem b_le1 (b : Bool) : b.toNat ≤ 1 := by cases b <;> decide
theorem b_mono {a b : Bool} (h : a = true → b = true) : a.toNat ≤ b.toNat := by
  cases a
  · exact Nat.zero_le _
  · rw [h rfl]; exact Nat.le_refl _
theorem cnt8_le (P : Nat → Bool) : cnt8 P ≤ 8 := by
  have h0 := b_le1 (P 0)
  have h1 := b_le1 (P 1)
  have h2 := b_le1 (P 2)
  have h3 := b_le1 (P 3)
  have h4 := b_le1 (P 4)
  have h5 := b_le1 (P 5)
  have h6 := b_le1 (P 6)
  have h7 := b_le1 (P 7)
  unfold cnt8
  omega
theorem cnt8_lt {P Q : Nat → Bool} (h : ∀ j, j < 8 → P j = true → Q j = true) {j : Nat} (hj : j < 8) (hq : Q j = true) (hp : P j = false) : cnt8 P < cnt8 Q := by
  have h0 := b_mono (h 0 (by omega))
  have h1 := b_mono (h 1 (by omega))
  have h2 := b_mono (h 2 (by omega))
  have h3 := b_mono (h 3 (by omega))
  have h4 := b_mono (h 4 (by omega))
  have h5 := b_mono (h 5 (by omega))
  have h6 := b_mono (h 6 (by omega))
  have h7 := b_mono (h 7 (by omega))
  have e1 : (Q j).toNat = 1 := by rw [hq]; rfl
  have e2 : (P j).toNat = 0 := by rw [hp]; rfl
  unfold cnt8
  have e : j = 0 ∨ j = 1 ∨ j = 2 ∨ j = 3 ∨ j = 4 ∨ j = 5 ∨ j = 6 ∨ j = 7 := by omega
  rcases e with e | e | e | e | e | e | e | e <;> subst e <;> omega
theorem lev_cnt {N : Nat → Nat} (hN : Acy N) {U : Nat} (hU : U < 256) : ∀ i, cnt8 (fun j => (lev (clo N) U i).testBit j) ≤ 8 - i := by
  intro i
  induction i with
  | zero => exact cnt8_le _
  | succ i ih =>
    by_cases h : ∃ s, s < 8 ∧ (lev (clo N) U i).testBit s = true
    · obtain ⟨s, hs, h1, h2⟩ := ex_first hN (fun s => (lev (clo N) U i).testBit s = true) 8 (Nat.le_refl 8) h
      have : cnt8 (fun j => (lev (clo N) U (i + 1)).testBit j) < cnt8 (fun j => (lev (clo N) U i).testBit j) := by
        refine cnt8_lt (fun j hj hq => lev_dn (clo N) hU hj (i + 1) hq i (Nat.le_succ i)) hs h1 ?_
        show (lev (clo N) U (i + 1)).testBit s = false
        rw [lev_tb (clo N) hU i hs, h1, Bool.true_and]
        cases e : exB (fun a => (lev (clo N) U i).testBit a && (clo N a).testBit s)
        · rfl
        · obtain ⟨a, ha, h3⟩ := (exB_iff _).mp e
          rw [Bool.and_eq_true] at h3
          exact absurd h3.2 (h2 a ha h3.1)
      omega
    · have hz : ∀ s, s < 8 → (lev (clo N) U (i + 1)).testBit s = false := fun s hs => by
        cases e : (lev (clo N) U (i + 1)).testBit s
        · rfl
        · exact absurd ⟨s, hs, lev_dn (clo N) hU hs (i + 1) e i (Nat.le_succ i)⟩ h
      unfold cnt8
      simp only [hz 0 (by omega), hz 1 (by omega), hz 2 (by omega), hz 3 (by omega), hz 4 (by omega), hz 5 (by omega), hz 6 (by omega), hz 7 (by omega)]
      exact Nat.zero_le _
theorem lev_8 {N : Nat → Nat} (hN : Acy N) {U : Nat} (hU : U < 256) : ∀ j, j < 8 → (lev (clo N) U 8).testBit j = false := by
  intro j hj
  cases e : (lev (clo N) U 8).testBit j
  · rfl
  · have h1 := lev_cnt hN hU 8
    have h2 : cnt8 (fun _ => false) < cnt8 (fun j => (lev (clo N) U 8).testBit j) := cnt8_lt (fun _ _ h => absurd h (by decide)) hj e rfl
    have h3 : cnt8 (fun _ => false) = 0 := rfl
    omega
theorem lev_z {C : Nat → Nat} {U : Nat} (hU : U < 256) (i : Nat) : lev C U i = 0 ↔ ∀ j, j < 8 → (lev C U i).testBit j = false := m_zero (lev_lt C hU i)
theorem lev_nz {C : Nat → Nat} {U : Nat} (hU : U < 256) {i : Nat} (h : ¬ lev C U i = 0) : ∃ j, j < 8 ∧ (lev C U i).testBit j = true := by
  rcases Classical.em (∃ j, j < 8 ∧ (lev C U i).testBit j = true) with q | q
  · exact q
  · exfalso
    refine h ((lev_z hU i).mpr (fun j hj => ?_))
    cases e : (lev C U i).testBit j
    · rfl
    · exact absurd ⟨j, hj, e⟩ q
theorem long_X {I : hm_I} {o U : Nat} {N : Nat → Nat} (h : ClO I o N) (hN : Acy N) (hU : U < 256) : ∃ k, k ≤ 8 ∧ fX1_longestChainAmong I o (nI U) = nI k ∧ (∀ i, i < k → ¬ lev (clo N) U i = 0) ∧ lev (clo N) U k = 0 := by
  unfold fX1_longestChainAmong
  have key : ∀ r i, i + r = 8 → (∀ i', i' < i → ¬ lev (clo N) U i' = 0) → ∃ k, k ≤ 8 ∧ lpr (fun (i4 : Nat) (x4 : Int32) => (if x4 = 0 then Sum.inl (nI i4) else Sum.inr (x4 &&& ((fX1_firstOf I o x4) ^^^ (-1))) : Int32 ⊕ (Int32))) (fun (x4 : Int32) => (if x4 = 0 then nI 8 else nI 8 : Int32)) r i (nI (lev (clo N) U i)) = nI k ∧ (∀ i, i < k → ¬ lev (clo N) U i = 0) ∧ lev (clo N) U k = 0 := by
    intro r
    induction r with
    | zero =>
      intro i hi hlo
      have e : i = 8 := by omega
      subst e
      refine ⟨8, Nat.le_refl 8, ?_, hlo, (lev_z hU 8).mpr (lev_8 hN hU)⟩
      rw [lpr_0]
      by_cases q : nI (lev (clo N) U 8) = 0
      · rw [if_pos q]
      · rw [if_neg q]
    | succ r ih =>
      intro i hi hlo
      have hl := lev_lt (clo N) hU i
      by_cases q : lev (clo N) U i = 0
      · refine ⟨i, by omega, ?_, hlo, q⟩
        rw [q, lpr_l (v := nI i) (by rw [nI_0, if_pos rfl])]
      · have hne : ¬ nI (lev (clo N) U i) = 0 := nI_ne0 (by omega) (by omega)
        rw [lpr_r (y := nI (lev (clo N) U (i + 1))) (by rw [if_neg hne, first_X h hl, fb_not hl]; rfl)]
        exact ih (i + 1) (by omega) (fun i' hi' => by
          by_cases e : i' = i
          · subst e; exact q
          · exact hlo i' (by omega))
  exact key 8 0 (by omega) (fun i hi => absurd hi (Nat.not_lt_zero i))
theorem lpr_inv {σ ρ : Type} {g : Nat → σ → ρ ⊕ σ} {d : σ → ρ} {n : Nat} {x : σ} (P : Nat → σ → Prop) (h0 : P 0 x) (hs : ∀ i u, i < n → P i u → ∃ u', g i u = .inr u' ∧ P (i + 1) u') : ∃ u, P n u ∧ lpr g d n 0 x = d u := by
  have key : ∀ r i u, i + r = n → P i u → ∃ u', P n u' ∧ lpr g d r i u = d u' := by
    intro r
    induction r with
    | zero =>
      intro i u hi hu
      have e : i = n := by omega
      subst e
      exact ⟨u, hu, rfl⟩
    | succ r ih =>
      intro i u hi hu
      obtain ⟨u', e, hu'⟩ := hs i u (by omega) hu
      obtain ⟨u2, h1, h2⟩ := ih (i + 1) u' (by omega) hu'
      exact ⟨u2, h1, by rw [lpr_r e]; exact h2⟩
  exact key n 0 x (by omega) h0
