/-! part 32: copies of rows and of states -/
theorem cpF {I : hm_I} {a b c : Nat} (hf : a + 5 ≤ b ∨ b + 5 ≤ a) :
    (∀ z k, (z < a ∨ a + 5 ≤ z) → fX0_copyFrom I a b c z k = I z k) ∧ fX0_copyFrom I a b c a 4 = nI c ∧ ∀ k, k < c → fX0_copyFrom I a b c (a + 1) k = I (b + 1) k ∧ fX0_copyFrom I a b c (a + 2) k = I (b + 2) k ∧ fX0_copyFrom I a b c (a + 3) k = I (b + 3) k ∧ fX0_copyFrom I a b c (a + 4) k = I (b + 4) k := by
  unfold fX0_copyFrom
  refine lp_inv (fun i (x : hm_I) => (∀ z k, (z < a ∨ a + 5 ≤ z) → x z k = I z k) ∧ x a 4 = nI c ∧ ∀ k, k < i → x (a + 1) k = I (b + 1) k ∧ x (a + 2) k = I (b + 2) k ∧ x (a + 3) k = I (b + 3) k ∧ x (a + 4) k = I (b + 4) k) ?_ ?_
  · refine ⟨fun z k hz => hp_n (Or.inl (by omega)), hm_put_at _ _ _ _, fun k hk => absurd hk (Nat.not_lt_zero k)⟩
  · intro i z hi hz
    obtain ⟨h1, h2, h3⟩ := hz
    refine ⟨fun u k hu => ?_, ?_, fun k hk => ?_⟩
    · rw [hp_n (Or.inl (by omega)), hp_n (Or.inl (by omega)), hp_n (Or.inl (by omega)), hp_n (Or.inl (by omega))]
      exact h1 u k hu
    · rw [hp_n (Or.inl (by omega)), hp_n (Or.inl (by omega)), hp_n (Or.inl (by omega)), hp_n (Or.inl (by omega))]
      exact h2
    · simp only [hp]
      by_cases e : k = i
      · subst e
        refine ⟨?_, ?_, ?_, ?_⟩
        · rw [if_neg (by omega), if_neg (by omega), if_neg (by omega), if_pos (by simp)]; exact h1 _ _ (by omega)
        · rw [if_neg (by omega), if_neg (by omega), if_pos (by simp)]; exact h1 _ _ (by omega)
        · rw [if_neg (by omega), if_pos (by simp)]; exact h1 _ _ (by omega)
        · rw [if_pos (by simp)]; exact h1 _ _ (by omega)
      · have h4 := h3 k (by omega)
        refine ⟨?_, ?_, ?_, ?_⟩
        · rw [if_neg (by omega), if_neg (by omega), if_neg (by omega), if_neg (by omega)]; exact h4.1
        · rw [if_neg (by omega), if_neg (by omega), if_neg (by omega), if_neg (by omega)]; exact h4.2.1
        · rw [if_neg (by omega), if_neg (by omega), if_neg (by omega), if_neg (by omega)]; exact h4.2.2.1
        · rw [if_neg (by omega), if_neg (by omega), if_neg (by omega), if_neg (by omega)]; exact h4.2.2.2
theorem cpO {I : hm_I} {a b : Nat} (hf : a + 3 ≤ b ∨ b + 3 ≤ a) :
    (∀ z k, (z < a ∨ a + 3 ≤ z) → fX1_copyFrom I a b z k = I z k) ∧ (∀ k, fX1_copyFrom I a b a k = I a k) ∧ ∀ k, k < 8 → fX1_copyFrom I a b (a + 1) k = I (b + 1) k ∧ fX1_copyFrom I a b (a + 2) k = I (b + 2) k := by
  unfold fX1_copyFrom
  refine lp_inv (fun i (x : hm_I) => (∀ z k, (z < a ∨ a + 3 ≤ z) → x z k = I z k) ∧ (∀ k, x a k = I a k) ∧ ∀ k, k < i → x (a + 1) k = I (b + 1) k ∧ x (a + 2) k = I (b + 2) k) ?_ ?_
  · exact ⟨fun _ _ _ => rfl, fun _ => rfl, fun k hk => absurd hk (Nat.not_lt_zero k)⟩
  · intro i z hi hz
    obtain ⟨h1, h2, h3⟩ := hz
    refine ⟨fun u k hu => ?_, fun k => ?_, fun k hk => ?_⟩
    · rw [hp_n (Or.inl (by omega)), hp_n (Or.inl (by omega))]
      exact h1 u k hu
    · rw [hp_n (Or.inl (by omega)), hp_n (Or.inl (by omega))]
      exact h2 k
    · simp only [hp]
      by_cases e : k = i
      · subst e
        refine ⟨?_, ?_⟩
        · rw [if_neg (by omega), if_pos (by simp)]; exact h1 _ _ (by omega)
        · rw [if_pos (by simp)]; exact h1 _ _ (by omega)
      · have h4 := h3 k (by omega)
        refine ⟨?_, ?_⟩
        · rw [if_neg (by omega), if_neg (by omega)]; exact h4.1
        · rw [if_neg (by omega), if_neg (by omega)]; exact h4.2
def cp1 (I : hm_I) (q r : Nat) (c : Nat → Nat) : hm_I := lp 8 (fun i10 x10 => fX0_copyFrom (hm_put (hm_put x10 (q + 1) i10 (x10 (r + 1) i10)) (q + 2) i10 (x10 (r + 2) i10)) (q + 4 + 5 * i10) (r + 4 + 5 * i10) (c i10)) (hm_put I q 0 (I r 0))
def cp2 (I : hm_I) (q r ec : Nat) : hm_I := lp ec (fun i82 x82 => fX1_copyFrom x82 (q + 48 + 3 * i82) (r + 48 + 3 * i82)) (hm_put (fX1_copyFrom I (q + 44) (r + 44)) q 6 (nI ec))
theorem cp1_spec {I : hm_I} {q r : Nat} {c : Nat → Nat} (hf : far q r) :
    (∀ z k, (z < q ∨ q + 83 ≤ z) → cp1 I q r c z k = I z k) ∧ cp1 I q r c q 0 = I r 0 ∧ ∀ s, s < 8 → cp1 I q r c (q + 1) s = I (r + 1) s ∧ cp1 I q r c (q + 2) s = I (r + 2) s ∧ cp1 I q r c (q + 4 + 5 * s) 4 = nI (c s) ∧
      ∀ k, k < c s → cp1 I q r c (q + 4 + 5 * s + 1) k = I (r + 4 + 5 * s + 1) k ∧ cp1 I q r c (q + 4 + 5 * s + 3) k = I (r + 4 + 5 * s + 3) k ∧ cp1 I q r c (q + 4 + 5 * s + 4) k = I (r + 4 + 5 * s + 4) k := by
  unfold far at hf
  unfold cp1
  refine lp_inv (fun i (x : hm_I) => (∀ z k, (z < q ∨ q + 83 ≤ z) → x z k = I z k) ∧ x q 0 = I r 0 ∧ ∀ s, s < i → x (q + 1) s = I (r + 1) s ∧ x (q + 2) s = I (r + 2) s ∧ x (q + 4 + 5 * s) 4 = nI (c s) ∧
      ∀ k, k < c s → x (q + 4 + 5 * s + 1) k = I (r + 4 + 5 * s + 1) k ∧ x (q + 4 + 5 * s + 3) k = I (r + 4 + 5 * s + 3) k ∧ x (q + 4 + 5 * s + 4) k = I (r + 4 + 5 * s + 4) k) ?_ ?_
  · exact ⟨fun z k hz => hp_n (Or.inl (by omega)), hm_put_at _ _ _ _, fun s hs => absurd hs (Nat.not_lt_zero s)⟩
  · intro i z hi hz
    obtain ⟨h1, h2, h3⟩ := hz
    have hF := cpF (I := hm_put (hm_put z (q + 1) i (z (r + 1) i)) (q + 2) i (z (r + 2) i)) (a := q + 4 + 5 * i) (b := r + 4 + 5 * i) (c := c i) (by omega)
    obtain ⟨f1, f2, f3⟩ := hF
    refine ⟨fun u k hu => ?_, ?_, fun s hs => ?_⟩
    · rw [f1 u k (by omega), hp_n (Or.inl (by omega)), hp_n (Or.inl (by omega))]
      exact h1 u k hu
    · rw [f1 _ _ (by omega), hp_n (Or.inl (by omega)), hp_n (Or.inl (by omega))]
      exact h2
    · by_cases e : s = i
      · subst e
        refine ⟨?_, ?_, f2, fun k hk => ?_⟩
        · rw [f1 _ _ (by omega), hp_n (Or.inl (by omega)), hm_put_at]; exact h1 _ _ (by omega)
        · rw [f1 _ _ (by omega), hm_put_at]; exact h1 _ _ (by omega)
        · obtain ⟨g1, g2, g3, g4⟩ := f3 k hk
          refine ⟨?_, ?_, ?_⟩
          · rw [g1, hp_n (Or.inl (by omega)), hp_n (Or.inl (by omega))]; exact h1 _ _ (by omega)
          · rw [g3, hp_n (Or.inl (by omega)), hp_n (Or.inl (by omega))]; exact h1 _ _ (by omega)
          · rw [g4, hp_n (Or.inl (by omega)), hp_n (Or.inl (by omega))]; exact h1 _ _ (by omega)
      · obtain ⟨a1, a2, a3, a4⟩ := h3 s (by omega)
        refine ⟨?_, ?_, ?_, fun k hk => ?_⟩
        · rw [f1 _ _ (by omega), hp_n (Or.inl (by omega)), hp_n (Or.inr (by omega))]; exact a1
        · rw [f1 _ _ (by omega), hp_n (Or.inr (by omega)), hp_n (Or.inl (by omega))]; exact a2
        · rw [f1 _ _ (by omega), hp_n (Or.inl (by omega)), hp_n (Or.inl (by omega))]; exact a3
        · obtain ⟨b1, b2, b3⟩ := a4 k hk
          refine ⟨?_, ?_, ?_⟩
          · rw [f1 _ _ (by omega), hp_n (Or.inl (by omega)), hp_n (Or.inl (by omega))]; exact b1
          · rw [f1 _ _ (by omega), hp_n (Or.inl (by omega)), hp_n (Or.inl (by omega))]; exact b2
          · rw [f1 _ _ (by omega), hp_n (Or.inl (by omega)), hp_n (Or.inl (by omega))]; exact b3
theorem cp2_spec {I : hm_I} {q r ec : Nat} (hf : far q r) (hec : ec ≤ 10) :
    (∀ z k, (z < q ∨ q + 78 ≤ z ∨ (q < z ∧ z < q + 44)) → cp2 I q r ec z k = I z k) ∧ (∀ k, k ≠ 6 → cp2 I q r ec q k = I q k) ∧ cp2 I q r ec q 6 = nI ec ∧ (∀ k, k < 8 → cp2 I q r ec (q + 44 + 1) k = I (r + 44 + 1) k ∧ cp2 I q r ec (q + 44 + 2) k = I (r + 44 + 2) k) ∧
      ∀ e, e < ec → ∀ k, k < 8 → cp2 I q r ec (q + 48 + 3 * e + 1) k = I (r + 48 + 3 * e + 1) k ∧ cp2 I q r ec (q + 48 + 3 * e + 2) k = I (r + 48 + 3 * e + 2) k := by
  unfold far at hf
  unfold cp2
  refine lp_inv (fun i (x : hm_I) => (∀ z k, (z < q ∨ q + 78 ≤ z ∨ (q < z ∧ z < q + 44)) → x z k = I z k) ∧ (∀ k, k ≠ 6 → x q k = I q k) ∧ x q 6 = nI ec ∧ (∀ k, k < 8 → x (q + 44 + 1) k = I (r + 44 + 1) k ∧ x (q + 44 + 2) k = I (r + 44 + 2) k) ∧
      ∀ e, e < i → ∀ k, k < 8 → x (q + 48 + 3 * e + 1) k = I (r + 48 + 3 * e + 1) k ∧ x (q + 48 + 3 * e + 2) k = I (r + 48 + 3 * e + 2) k) ?_ ?_
  · obtain ⟨f1, f2, f3⟩ := cpO (I := I) (a := q + 44) (b := r + 44) (by omega)
    refine ⟨fun z k hz => ?_, fun k hk => ?_, hm_put_at _ _ _ _, fun k hk => ?_, fun s hs => absurd hs (Nat.not_lt_zero s)⟩
    · rw [hp_n (Or.inl (by omega))]; exact f1 z k (by omega)
    · rw [hp_n (Or.inr hk)]; exact f1 q k (by omega)
    · rw [hp_n (Or.inl (by omega)), hp_n (Or.inl (by omega))]; exact f3 k hk
  · intro i z hi hz
    obtain ⟨h1, h2, h3, h4, h5⟩ := hz
    obtain ⟨f1, f2, f3⟩ := cpO (I := z) (a := q + 48 + 3 * i) (b := r + 48 + 3 * i) (by omega)
    refine ⟨fun u k hu => ?_, fun k hk => ?_, ?_, fun k hk => ?_, fun e he k hk => ?_⟩
    · rw [f1 u k (by omega)]; exact h1 u k hu
    · rw [f1 _ k (by omega)]; exact h2 k hk
    · rw [f1 _ _ (by omega)]; exact h3
    · rw [f1 _ _ (by omega), f1 _ _ (by omega)]; exact h4 k hk
    · by_cases e1 : e = i
      · subst e1
        rw [(f3 k hk).1, (f3 k hk).2, h1 _ _ (by omega), h1 _ _ (by omega)]
        exact ⟨rfl, rfl⟩
      · rw [f1 _ _ (by omega), f1 _ _ (by omega)]; exact h5 e (by omega) k hk
theorem cpS_eq {I : hm_I} {q r : Nat} {c : Nat → Nat} {ec lc : Nat} : fX2_copyFrom I q r c ec lc = fX0_copyFrom (hm_put (hm_put (cp2 (cp1 I q r c) q r ec) q 7 (cp2 (cp1 I q r c) q r ec r 7)) q 8 (cp2 (cp1 I q r c) q r ec r 8)) (q + 78) (r + 78) lc := rfl
theorem cpS_frame {I : hm_I} {q r : Nat} {c : Nat → Nat} {ec lc : Nat} (hf : far q r) (hec : ec ≤ 10) {z k : Nat} (hz : z < q ∨ q + 83 ≤ z) : fX2_copyFrom I q r c ec lc z k = I z k := by
  obtain ⟨a1, -⟩ := cp1_spec (I := I) (c := c) hf
  obtain ⟨b1, -⟩ := cp2_spec (I := cp1 I q r c) hf hec
  rw [cpS_eq]
  unfold far at hf
  obtain ⟨f1, -⟩ := cpF (I := hm_put (hm_put (cp2 (cp1 I q r c) q r ec) q 7 (cp2 (cp1 I q r c) q r ec r 7)) q 8 (cp2 (cp1 I q r c) q r ec r 8)) (a := q + 78) (b := r + 78) (c := lc) (by omega)
  rw [f1 _ _ (by omega), hp_n (Or.inl (by omega)), hp_n (Or.inl (by omega)), b1 _ _ (by omega), a1 _ _ hz]
theorem cpS_rel {I : hm_I} {q r : Nat} {w : Nat → Int32} {c : Nat → Nat} {e : Nat → Nat → Nat} (hf : far q r) (hG : WfC w) (hA : Agr w c e) (h : Rel I r w) : Rel (fX2_copyFrom I q r c (epM w + 1) (lgM w)) q w := by
  obtain ⟨⟨r1, r2⟩, ⟨r3, r4⟩, ⟨r5, r6, r7⟩, ⟨r8, r9⟩, r10, r11⟩ := h
  have hep := hG.2.2.2.1
  have hlg : w 267 = nI (lgM w) := hG.2.2.2.2.1
  obtain ⟨a1, a2, a3⟩ := cp1_spec (I := I) (c := c) hf
  obtain ⟨b1, b2, b3, b4, b5⟩ := cp2_spec (I := cp1 I q r c) (ec := epM w + 1) hf (by omega)
  rw [cpS_eq]
  unfold far at hf
  generalize hX : cp2 (cp1 I q r c) q r (epM w + 1) = X at b1 b2 b3 b4 b5 ⊢
  obtain ⟨f1, f2, f3⟩ := cpF (I := hm_put (hm_put X q 7 (X r 7)) q 8 (X r 8)) (a := q + 78) (b := r + 78) (c := lgM w) (by omega)
  generalize hY : fX0_copyFrom (hm_put (hm_put X q 7 (X r 7)) q 8 (X r 8)) (q + 78) (r + 78) (lgM w) = Y at f1 f2 f3 ⊢
  have g : ∀ z k, q < z → z < q + 44 → Y z k = cp1 I q r c z k := fun z k h1 h2 => by
    rw [f1 _ _ (by omega), hp_n (Or.inl (by omega)), hp_n (Or.inl (by omega)), b1 _ _ (by omega)]
  have g2 : ∀ z k, q + 44 ≤ z → z < q + 78 → Y z k = X z k := fun z k h1 h2 => by
    rw [f1 _ _ (by omega), hp_n (Or.inl (by omega)), hp_n (Or.inl (by omega))]
  have g3 : ∀ k, k ≠ 7 → k ≠ 8 → Y q k = X q k := fun k h1 h2 => by
    rw [f1 _ _ (by omega), hp_n (Or.inr h2), hp_n (Or.inr h1)]
  have out : ∀ z k, r ≤ z → z < r + 83 → X z k = I z k := fun z k h1 h2 => by
    rw [b1 _ _ (by omega), a1 _ _ (by omega)]
  refine ⟨⟨?_, fun s hs ho => ?_⟩, ⟨fun s hs => ?_, fun s hs k hk => ?_⟩, ⟨fun a ha => ?_, fun e' he a ha => ?_, ?_⟩, ⟨?_, fun k hk => ?_⟩, ?_, ?_⟩
  · rw [g3 0 (by omega) (by omega), b2 0 (by omega), a2]; exact r1
  · rw [g _ _ (by omega) (by omega), g _ _ (by omega) (by omega), (a3 s hs).1, (a3 s hs).2.1]; exact r2 s hs ho
  · rw [g _ _ (by omega) (by omega), (a3 s hs).2.2.1, hA.1 s hs, ← (hG.1 s hs).1]
  · have hk' : k < c s := by rw [hA.1 s hs]; exact hk
    rw [g _ _ (by omega) (by omega), g _ _ (by omega) (by omega), g _ _ (by omega) (by omega), ((a3 s hs).2.2.2 k hk').1, ((a3 s hs).2.2.2 k hk').2.1, ((a3 s hs).2.2.2 k hk').2.2]
    exact r4 s hs k hk
  · rw [g2 _ _ (by omega) (by omega), g2 _ _ (by omega) (by omega), (b4 a ha).1, (b4 a ha).2, a1 _ _ (by omega), a1 _ _ (by omega)]
    exact r5 a ha
  · rw [g2 _ _ (by omega) (by omega), g2 _ _ (by omega) (by omega), (b5 e' (by omega) a ha).1, (b5 e' (by omega) a ha).2, a1 _ _ (by omega), a1 _ _ (by omega)]
    exact r6 e' he a ha
  · rw [g3 6 (by omega) (by omega), b3]
  · rw [f2, hlg]
  · obtain ⟨u1, u2, u3, u4⟩ := f3 k hk
    have o1 : ∀ z, r + 78 ≤ z → z < r + 83 → hm_put (hm_put X q 7 (X r 7)) q 8 (X r 8) z k = I z k := fun z h1 h2 => by
      rw [hp_n (Or.inl (by omega)), hp_n (Or.inl (by omega)), out _ _ (by omega) (by omega)]
    rw [u1, u2, u3, u4, o1 _ (by omega) (by omega), o1 _ (by omega) (by omega), o1 _ (by omega) (by omega), o1 _ (by omega) (by omega)]
    exact r9 k hk
  · rw [f1 _ _ (by omega), hp_n (Or.inr (by omega)), hm_put_at, out _ _ (by omega) (by omega)]; exact r10
  · rw [f1 _ _ (by omega), hm_put_at, out _ _ (by omega) (by omega)]; exact r11
