/-! part 36: the new row is in order; the class sends -/
def kx (s s' k : Nat) : Nat := if s' = s then k + 1 else k
theorem cM_snd {w : Nat → Int32} {s s' : Nat} (hG : WfC w) (hs : s < 8) (hs' : s' < 8) : cM (sndW w s) s' = if s' = s then cM w s - 1 else cM w s' := by
  have := cM_le hG hs
  have h1 : cM (sndW w s) s' = (sndW w s (24 + s')).toNatClampNeg := rfl
  rw [h1, snd_24 hs hs']
  by_cases h : s' = s
  · rw [if_pos h, if_pos h, nI_clamp (by omega)]
  · rw [if_neg h, if_neg h]; rfl
theorem snd_cell {w : Nat → Int32} {s s' k : Nat} (hG : WfC w) (hs : s < 8) (hs' : s' < 8) (hk : k < cM (sndW w s) s') : kx s s' k < cM w s' ∧ ∀ j, j < 3 → sndW w s (32 + 18 * s' + 3 * k + j) = w (32 + 18 * s' + 3 * kx s s' k + j) := by
  rw [cM_snd hG hs hs'] at hk
  unfold kx
  by_cases h : s' = s
  · subst h
    rw [if_pos rfl] at hk
    rw [if_pos rfl]
    exact ⟨by omega, fun j hj => snd_self hj (by omega)⟩
  · rw [if_neg h] at hk
    have := cM_le hG hs'
    rw [if_neg h]
    exact ⟨hk, fun j hj => snd_ne hs hs' (cM_le hG hs) h hj (by omega)⟩
theorem eM_snd {w : Nat → Int32} {s s' k : Nat} (hG : WfC w) (hs : s < 8) (hs' : s' < 8) (hk : k < cM (sndW w s) s') : eM (sndW w s) s' k = eM w s' (kx s s' k) := by
  unfold eM; rw [(snd_cell hG hs hs' hk).2 2 (by omega)]
theorem numM_snd {w : Nat → Int32} {s s' k : Nat} (hG : WfC w) (hs : s < 8) (hs' : s' < 8) (hk : k < cM (sndW w s) s') : numM (sndW w s) s' k = numM w s' (kx s s' k) := congrArg Int32.toNatClampNeg ((snd_cell hG hs hs' hk).2 0 (by omega))
theorem szR_snd {w : Nat → Int32} {s s' k : Nat} (hG : WfC w) (hs : s < 8) (hs' : s' < 8) (hk : k < cM (sndW w s) s') : szR (sndW w s) s' k = szR w s' (kx s s' k) := congrArg Int32.toNatClampNeg ((snd_cell hG hs hs' hk).2 1 (by omega))
theorem epM_snd {w : Nat → Int32} {s : Nat} (hG : WfC w) (hs : s < 8) : epM (sndW w s) = epM w := by unfold epM; rw [snd_mid hs (cM_le hG hs) (by omega) (by omega)]
theorem lg1_le {w : Nat → Int32} (hG : WfC w) : lg1 w ≤ 39 := by
  have : lgM w ≤ 40 := hG.2.2.2.2.2
  unfold lg1
  by_cases h : lgM w = 40
  · rw [if_pos h]; exact Nat.le_refl _
  · rw [if_neg h]; omega
theorem lgM_snd {w : Nat → Int32} {s : Nat} (hG : WfC w) (hs : s < 8) : lgM (sndW w s) = lg1 w + 1 := by
  have := lg1_le hG
  unfold lgM; rw [snd_267 hs (cM_le hG hs), nI_clamp (by omega)]
theorem OrdOk_cong {w w' : Nat → Int32} {r : Nat} (h : ∀ a, a < 8 → w' (r + a) = w (r + a)) (hO : OrdOk w r) : OrdOk w' r := by
  have hm : ∀ a, a < 8 → mk w' r a = mk w r a := fun a ha => by unfold mk; rw [h a ha]
  refine ⟨fun a ha => ?_, fun a ha => ?_⟩
  · rw [h a ha, hm a ha]; exact hO.1 a ha
  · rw [clo_cong hm a ha]; exact hO.2 a ha
theorem RelO_cong {I : hm_I} {o : Nat} {w w' : Nat → Int32} {r : Nat} (h : ∀ a, a < 8 → w' (r + a) = w (r + a)) (hO : RelO I o w r) : RelO I o w' r := by
  have hm : ∀ a, a < 8 → mk w' r a = mk w r a := fun a ha => by unfold mk; rw [h a ha]
  intro a ha
  rw [h a ha, clo_cong hm a ha]
  exact hO a ha
theorem osM_cong {w w' : Nat → Int32} (h : ∀ s, s < 8 → w' s = w s) : osM w' = osM w := by
  unfold osM
  refine lq_rel (n := 8) (fun _ x y => x = y) rfl (fun i u v hi huv => ?_)
  simp only [h i hi, huv]
theorem Good_snd {w : Nat → Int32} {t s : Nat} (hG : Good w t) (hs : s < 8) (hc : 0 < cM w s) : Good (sndW w s) t := by
  obtain ⟨hW, hO, ⟨hD, hE⟩, hQ1, ⟨come, hq2, hq3, hq4⟩, hQ3, hQ4⟩ := hG
  have hcs := cM_le hW hs
  have hep := hW.2.2.2.1
  have hl39 := lg1_le hW
  refine ⟨⟨fun s' hs' => ?_, fun s' hs' k hk => ?_, ?_, ?_, ?_, ?_⟩, fun s' hs' => ⟨?_, fun h0 => ?_⟩, ⟨OrdOk_cong (fun a ha => snd_mid hs hcs (by omega) (by omega)) hD, fun e he => ?_⟩, fun s' hs' k hk => ?_, ⟨come, ?_, hq3, fun s' hs' k hk => ?_⟩, fun s1 hs1 s2 hs2 k1 hk1 k2 hk2 heq => ?_, fun s' hs' k hk => ?_⟩
  · rw [cM_snd hW hs hs', snd_24 hs hs']
    by_cases h : s' = s
    · rw [if_pos h, if_pos h]; exact ⟨rfl, by omega⟩
    · rw [if_neg h, if_neg h]; exact hW.1 s' hs'
  · obtain ⟨g1, g2⟩ := snd_cell hW hs hs' hk
    rw [g2 2 (by omega), eM_snd hW hs hs' hk, epM_snd hW hs]
    exact hW.2.1 s' hs' _ g1
  · rw [epM_snd hW hs, snd_mid hs hcs (by omega) (by omega)]; exact hW.2.2.1
  · rw [epM_snd hW hs]; exact hep
  · rw [lgM_snd hW hs, snd_267 hs hcs]
  · rw [lgM_snd hW hs]; omega
  · rw [snd_low (by omega)]; exact (hO s' hs').1
  · rw [snd_low (by omega)] at h0
    have h3 := (hO s' hs').2 h0
    have hne : ¬ s' = s := by
      intro q; subst q; omega
    rw [snd_low (by omega), snd_16 hs', if_neg hne, cM_snd hW hs hs', if_neg hne]
    exact h3
  · rw [epM_snd hW hs] at he
    exact OrdOk_cong (fun a ha => snd_mid hs hcs (by omega) (by omega)) (hE e he)
  · have hk1 := (snd_cell hW hs hs' hk).1
    rw [eM_snd hW hs hs' hk, eM_snd hW hs hs' (by omega)]
    have e : kx s s' (k + 1) = kx s s' k + 1 := by
      unfold kx
      by_cases h : s' = s
      · rw [if_pos h, if_pos h]
      · rw [if_neg h, if_neg h]
    rw [e] at hk1 ⊢
    exact hQ1 s' hs' _ hk1
  · rw [snd_mid hs hcs (by omega) (by omega)]; exact hq2
  · obtain ⟨g1, g2⟩ := snd_cell hW hs hs' hk
    rw [numM_snd hW hs hs' hk]
    exact ⟨(g2 0 (by omega)).trans (hq4 s' hs' _ g1).1, (hq4 s' hs' _ g1).2⟩
  · rw [numM_snd hW hs hs1 hk1, numM_snd hW hs hs2 hk2] at heq
    obtain ⟨e1, e2⟩ := hQ3 s1 hs1 s2 hs2 _ (snd_cell hW hs hs1 hk1).1 _ (snd_cell hW hs hs2 hk2).1 heq
    refine ⟨e1, ?_⟩
    subst e1
    unfold kx at e2
    by_cases h : s1 = s
    · rw [if_pos h, if_pos h] at e2; omega
    · rw [if_neg h, if_neg h] at e2; exact e2
  · obtain ⟨g1, g2⟩ := snd_cell hW hs hs' hk
    rw [szR_snd hW hs hs' hk]
    exact ⟨(g2 1 (by omega)).trans (hQ4 s' hs' _ g1).1, (hQ4 s' hs' _ g1).2⟩
/-! the class -/
theorem rm_spec {I : hm_I} {a c : Nat} : (∀ z k, (z < a ∨ a + 5 ≤ z) → fX0_removeFirst_t I a c z k = I z k) ∧ fX0_removeFirst_t I a c a 4 = nI (c - 1) ∧
    ∀ k, k + 1 < c → fX0_removeFirst_t I a c (a + 1) k = I (a + 1) (k + 1) ∧ fX0_removeFirst_t I a c (a + 2) k = I (a + 2) (k + 1) ∧ fX0_removeFirst_t I a c (a + 3) k = I (a + 3) (k + 1) ∧ fX0_removeFirst_t I a c (a + 4) k = I (a + 4) (k + 1) := by
  unfold fX0_removeFirst_t
  have key := lp_inv (n := c - 1) (f := fun i10 x10 => hm_put (hm_put (hm_put (hm_put x10 (a + 1) i10 (x10 (a + 1) (i10 + 1))) (a + 2) i10 (x10 (a + 2) (i10 + 1))) (a + 3) i10 (x10 (a + 3) (i10 + 1))) (a + 4) i10 (x10 (a + 4) (i10 + 1))) (x := I)
    (fun i (x : hm_I) => (∀ z k, (z < a ∨ a + 5 ≤ z) → x z k = I z k) ∧ ∀ k, (k < i → x (a + 1) k = I (a + 1) (k + 1) ∧ x (a + 2) k = I (a + 2) (k + 1) ∧ x (a + 3) k = I (a + 3) (k + 1) ∧ x (a + 4) k = I (a + 4) (k + 1)) ∧ (i ≤ k → x (a + 1) k = I (a + 1) k ∧ x (a + 2) k = I (a + 2) k ∧ x (a + 3) k = I (a + 3) k ∧ x (a + 4) k = I (a + 4) k))
    ⟨fun _ _ _ => rfl, fun k => ⟨fun hk => absurd hk (Nat.not_lt_zero k), fun _ => ⟨rfl, rfl, rfl, rfl⟩⟩⟩ ?_
  · refine ⟨fun z k hz => ?_, hm_put_at _ _ _ _, fun k hk => ?_⟩
    · rw [hp_n (Or.inl (by omega))]; exact key.1 z k hz
    · rw [hp_n (Or.inl (by omega)), hp_n (Or.inl (by omega)), hp_n (Or.inl (by omega)), hp_n (Or.inl (by omega))]
      exact (key.2 k).1 (by omega)
  · intro i x hi hx
    obtain ⟨h1, h2⟩ := hx
    have h3 := (h2 (i + 1)).2 (by omega)
    refine ⟨fun z k hz => ?_, fun k => ?_⟩
    · rw [hp_n (Or.inl (by omega)), hp_n (Or.inl (by omega)), hp_n (Or.inl (by omega)), hp_n (Or.inl (by omega))]
      exact h1 z k hz
    · simp only [hp]
      by_cases e : k = i
      · subst e
        refine ⟨fun _ => ⟨?_, ?_, ?_, ?_⟩, fun hk => absurd hk (by omega)⟩
        · rw [if_neg (by omega), if_neg (by omega), if_neg (by omega), if_pos (by simp)]; exact h3.1
        · rw [if_neg (by omega), if_neg (by omega), if_pos (by simp)]; exact h3.2.1
        · rw [if_neg (by omega), if_pos (by simp)]; exact h3.2.2.1
        · rw [if_pos (by simp)]; exact h3.2.2.2
      · refine ⟨fun hk => ?_, fun hk => ?_⟩
        · have h4 := (h2 k).1 (by omega)
          refine ⟨?_, ?_, ?_, ?_⟩
          · rw [if_neg (by omega), if_neg (by omega), if_neg (by omega), if_neg (by omega)]; exact h4.1
          · rw [if_neg (by omega), if_neg (by omega), if_neg (by omega), if_neg (by omega)]; exact h4.2.1
          · rw [if_neg (by omega), if_neg (by omega), if_neg (by omega), if_neg (by omega)]; exact h4.2.2.1
          · rw [if_neg (by omega), if_neg (by omega), if_neg (by omega), if_neg (by omega)]; exact h4.2.2.2
        · have h4 := (h2 k).2 (by omega)
          refine ⟨?_, ?_, ?_, ?_⟩
          · rw [if_neg (by omega), if_neg (by omega), if_neg (by omega), if_neg (by omega)]; exact h4.1
          · rw [if_neg (by omega), if_neg (by omega), if_neg (by omega), if_neg (by omega)]; exact h4.2.1
          · rw [if_neg (by omega), if_neg (by omega), if_neg (by omega), if_neg (by omega)]; exact h4.2.2.1
          · rw [if_neg (by omega), if_neg (by omega), if_neg (by omega), if_neg (by omega)]; exact h4.2.2.2
theorem add_spec {I : hm_I} {a c : Nat} {v s0 z0 e0 : Int32} : (∀ z k, (z < a ∨ a + 5 ≤ z) → fX0_add_t I a c v s0 z0 e0 z k = I z k) ∧ fX0_add_t I a c v s0 z0 e0 a 4 = nI (c + 1) ∧
    (∀ k, k ≠ c → fX0_add_t I a c v s0 z0 e0 (a + 1) k = I (a + 1) k ∧ fX0_add_t I a c v s0 z0 e0 (a + 2) k = I (a + 2) k ∧ fX0_add_t I a c v s0 z0 e0 (a + 3) k = I (a + 3) k ∧ fX0_add_t I a c v s0 z0 e0 (a + 4) k = I (a + 4) k) ∧
    (fX0_add_t I a c v s0 z0 e0 (a + 1) c = v ∧ fX0_add_t I a c v s0 z0 e0 (a + 2) c = s0 ∧ fX0_add_t I a c v s0 z0 e0 (a + 3) c = z0 ∧ fX0_add_t I a c v s0 z0 e0 (a + 4) c = e0) := by
  unfold fX0_add_t
  refine ⟨fun z k hz => ?_, hm_put_at _ _ _ _, fun k hk => ⟨?_, ?_, ?_, ?_⟩, ?_, ?_, ?_, ?_⟩
  · rw [hp_n (Or.inl (by omega)), hp_n (Or.inl (by omega)), hp_n (Or.inl (by omega)), hp_n (Or.inl (by omega)), hp_n (Or.inl (by omega))]
  · rw [hp_n (Or.inl (by omega)), hp_n (Or.inr hk), hp_n (Or.inr hk), hp_n (Or.inr hk), hp_n (Or.inr hk)]
  · rw [hp_n (Or.inl (by omega)), hp_n (Or.inr hk), hp_n (Or.inr hk), hp_n (Or.inr hk), hp_n (Or.inr hk)]
  · rw [hp_n (Or.inl (by omega)), hp_n (Or.inr hk), hp_n (Or.inr hk), hp_n (Or.inr hk), hp_n (Or.inr hk)]
  · rw [hp_n (Or.inl (by omega)), hp_n (Or.inr hk), hp_n (Or.inr hk), hp_n (Or.inr hk), hp_n (Or.inr hk)]
  · rw [hp_n (Or.inl (by omega)), hp_n (Or.inl (by omega)), hp_n (Or.inl (by omega)), hp_n (Or.inl (by omega)), hm_put_at]
  · rw [hp_n (Or.inl (by omega)), hp_n (Or.inl (by omega)), hp_n (Or.inl (by omega)), hm_put_at]
  · rw [hp_n (Or.inl (by omega)), hp_n (Or.inl (by omega)), hm_put_at]
  · rw [hp_n (Or.inl (by omega)), hm_put_at]
def sfA (L I : hm_I) (q g s : Nat) : hm_I := fX0_add_t L (q + 78) g (L ((q + 4 + 5 * s) + 1) 0) (nI s) (I ((q + 4 + 5 * s) + 3) 0) (L ((q + 4 + 5 * s) + 4) 0)
def sfQ (L I : hm_I) (q g s c : Nat) : hm_I := fX0_removeFirst_t (sfA L I q g s) (q + 4 + 5 * s) c
def sfB (L I : hm_I) (q g s c : Nat) : hm_I := hm_put (hm_put (sfQ L I q g s c) (q + 2) s (sfQ L I q g s c (q + 2) s + I ((q + 4 + 5 * s) + 3) 0)) q 8 (sfQ L I q g s c q 8 + nI 1)
theorem sf_eq (I : hm_I) (q : Nat) (c : Nat → Nat) (lc s : Nat) : fX2_sendFirst_t I q c lc s = if fX0_isFull 40 lc = true then sfB (fX0_removeFirst_t I (q + 78) lc) I q (lc - 1) s (c s) else sfB I I q lc s (c s) := rfl
theorem sfB_rel {L I : hm_I} {q t g s : Nat} {w : Nat → Int32} (hG : Good w t) (h : Rel I q w) (hs : s < 8) (hc : 0 < cM w s) (hg : g = lg1 w) (hL : ∀ z k, (z < q + 78 ∨ q + 83 ≤ z) → L z k = I z k)
    (hLg : ∀ k, k < g → L ((q + 78) + 1) k = (if lgM w = 40 then w (268 + 4 * (k + 1) + 0) else w (268 + 4 * k + 0)) ∧ L ((q + 78) + 2) k = (if lgM w = 40 then w (268 + 4 * (k + 1) + 1) else w (268 + 4 * k + 1)) ∧ L ((q + 78) + 3) k = (if lgM w = 40 then w (268 + 4 * (k + 1) + 2) else w (268 + 4 * k + 2)) ∧ L ((q + 78) + 4) k = (if lgM w = 40 then w (268 + 4 * (k + 1) + 3) else w (268 + 4 * k + 3))) :
    Rel (sfB L I q g s (cM w s)) q (sndW w s) ∧ ∀ z k, (z < q ∨ q + 83 ≤ z) → sfB L I q g s (cM w s) z k = I z k := by
  obtain ⟨⟨r1, r2⟩, ⟨r3, r4⟩, ⟨r5, r6, r7⟩, ⟨r8, r9⟩, r10, r11⟩ := h
  have hW := hG.1
  have hcs := cM_le hW hs
  have hep := hW.2.2.2.1
  have hlm : lgM w ≤ 40 := hW.2.2.2.2.2
  have hos := opn_c hG.2.1 hs hc
  obtain ⟨a1, a2, a3, a4⟩ := add_spec (I := L) (a := q + 78) (c := g) (v := L ((q + 4 + 5 * s) + 1) 0) (s0 := nI s) (z0 := I ((q + 4 + 5 * s) + 3) 0) (e0 := L ((q + 4 + 5 * s) + 4) 0)
  change ∀ z k, _ → sfA L I q g s z k = _ at a1
  change sfA L I q g s _ _ = _ at a2
  change ∀ k, k ≠ g → sfA L I q g s _ _ = _ ∧ sfA L I q g s _ _ = _ ∧ sfA L I q g s _ _ = _ ∧ sfA L I q g s _ _ = _ at a3
  change sfA L I q g s _ _ = _ ∧ sfA L I q g s _ _ = _ ∧ sfA L I q g s _ _ = _ ∧ sfA L I q g s _ _ = _ at a4
  obtain ⟨b1, b2, b3⟩ := rm_spec (I := sfA L I q g s) (a := q + 4 + 5 * s) (c := cM w s)
  change ∀ z k, _ → sfQ L I q g s (cM w s) z k = _ at b1
  change sfQ L I q g s (cM w s) _ _ = _ at b2
  change ∀ k, _ → sfQ L I q g s (cM w s) _ _ = _ ∧ sfQ L I q g s (cM w s) _ _ = _ ∧ sfQ L I q g s (cM w s) _ _ = _ ∧ sfQ L I q g s (cM w s) _ _ = _ at b3
  have hsz := (r4 s hs 0 hc).2.1
  have hX : ∀ z k, (z < q + 78 ∨ q + 83 ≤ z) → (z < q + 4 + 5 * s ∨ q + 4 + 5 * s + 5 ≤ z) → sfQ L I q g s (cM w s) z k = I z k := fun z k h1 h2 => by
    rw [b1 z k h2, a1 z k h1, hL z k h1]
  have hB : ∀ z k, z ≠ q → (z ≠ q + 2 ∨ k ≠ s) → sfB L I q g s (cM w s) z k = sfQ L I q g s (cM w s) z k := fun z k h1 h2 => by
    unfold sfB
    rw [hp_n (Or.inl h1), hp_n h2]
  have hBq : ∀ k, k ≠ 8 → sfB L I q g s (cM w s) q k = I q k := fun k h1 => by
    unfold sfB
    rw [hp_n (Or.inr h1), hp_n (Or.inl (by omega)), hX _ _ (by omega) (by omega)]
  refine ⟨⟨⟨?_, fun s' hs' ho => ⟨?_, ?_⟩⟩, ⟨fun s' hs' => ?_, fun s' hs' k hk => ?_⟩, ⟨?_, fun e he => ?_, ?_⟩, ⟨?_, fun k hk => ?_⟩, ?_, ?_⟩, fun z k hz => ?_⟩
  · rw [hBq 0 (by omega), osM_cong (fun s' hs' => snd_low (by omega))]; exact r1
  · rw [snd_low (by omega)] at ho ⊢
    rw [hB _ _ (by omega) (by omega), hX _ _ (by omega) (by omega)]
    exact (r2 s' hs' ho).1
  · rw [snd_low (by omega)] at ho
    rw [snd_16 hs']
    by_cases e : s' = s
    · subst e
      rw [if_pos rfl]
      unfold sfB
      rw [hp_n (Or.inl (by omega)), hm_put_at, hX _ _ (by omega) (by omega), hsz, (r2 s' hs' ho).2]
    · rw [if_neg e, hB _ _ (by omega) (Or.inr e), hX _ _ (by omega) (by omega)]
      exact (r2 s' hs' ho).2
  · rw [snd_24 hs hs']
    by_cases e : s' = s
    · subst e
      rw [if_pos rfl, hB _ _ (by omega) (by omega), b2]
    · rw [if_neg e, hB _ _ (by omega) (by omega), hX _ _ (by omega) (by omega)]
      exact r3 s' hs'
  · obtain ⟨g1, g2⟩ := snd_cell hW hs hs' hk
    have q0 : sndW w s (32 + 18 * s' + 3 * k) = w (32 + 18 * s' + 3 * kx s s' k) := g2 0 (by omega)
    rw [q0, g2 1 (by omega), g2 2 (by omega), hB _ _ (by omega) (by omega), hB _ _ (by omega) (by omega), hB _ _ (by omega) (by omega)]
    rw [cM_snd hW hs hs'] at hk
    by_cases e : s' = s
    · subst e
      rw [if_pos rfl] at hk
      have hkx : kx s' s' k = k + 1 := if_pos rfl
      rw [hkx] at g1 ⊢
      obtain ⟨u1, -, u3, u4⟩ := b3 k (by omega)
      rw [u1, u3, u4, a1 _ _ (by omega), a1 _ _ (by omega), a1 _ _ (by omega), hL _ _ (by omega), hL _ _ (by omega), hL _ _ (by omega)]
      exact r4 s' hs' _ g1
    · have hkx : kx s s' k = k := if_neg e
      rw [hkx] at g1 ⊢
      rw [hX _ _ (by omega) (by omega), hX _ _ (by omega) (by omega), hX _ _ (by omega) (by omega)]
      exact r4 s' hs' _ g1
  · refine RelO_cong (fun a ha => snd_mid hs hcs (by omega) (by omega)) (RelO_frame (fun a k h1 h2 => ?_) r5)
    rw [hB _ _ (by omega) (by omega), hX _ _ (by omega) (by omega)]
  · rw [epM_snd hW hs] at he
    refine RelO_cong (fun a ha => snd_mid hs hcs (by omega) (by omega)) (RelO_frame (fun a k h1 h2 => ?_) (r6 e he))
    rw [hB _ _ (by omega) (by omega), hX _ _ (by omega) (by omega)]
  · rw [epM_snd hW hs, hBq 6 (by omega)]; exact r7
  · rw [snd_267 hs hcs, hB _ _ (by omega) (by omega), b1 _ _ (by omega), a2, hg]
  · rw [lgM_snd hW hs] at hk
    rw [hB _ _ (by omega) (by omega), hB _ _ (by omega) (by omega), hB _ _ (by omega) (by omega), hB _ _ (by omega) (by omega), b1 _ _ (by omega), b1 _ _ (by omega), b1 _ _ (by omega), b1 _ _ (by omega)]
    have l0 := snd_log hs hcs hlm hk (j := 0) (by omega)
    rw [show sndW w s (268 + 4 * k) = _ from l0, snd_log hs hcs hlm hk (j := 1) (by omega), snd_log hs hcs hlm hk (j := 2) (by omega), snd_log hs hcs hlm hk (j := 3) (by omega)]
    by_cases e : k = g
    · have e' : k = lg1 w := e.trans hg
      rw [if_pos e', if_pos e', if_pos e', if_pos e', e, a4.1, a4.2.1, a4.2.2.1, a4.2.2.2, hL _ _ (by omega), hL _ _ (by omega)]
      exact ⟨(r4 s hs 0 hc).1, rfl, (r4 s hs 0 hc).2.1, (r4 s hs 0 hc).2.2⟩
    · have e' : ¬ k = lg1 w := fun h' => e (h'.trans hg.symm)
      obtain ⟨v1, v2, v3, v4⟩ := a3 k e
      rw [if_neg e', if_neg e', if_neg e', if_neg e', v1, v2, v3, v4]
      exact hLg k (by omega)
  · rw [snd_mid hs hcs (by omega) (by omega), hBq 7 (by omega)]; exact r10
  · rw [snd_266 hs hcs]
    unfold sfB
    rw [hm_put_at, hX _ _ (by omega) (by omega), r11]
  · by_cases e : z = q + 2
    · omega
    · rw [hB _ _ (by omega) (Or.inl e), hX _ _ (by omega) (by omega)]
theorem send_X {I : hm_I} {q t s : Nat} {w : Nat → Int32} {c : Nat → Nat} {e : Nat → Nat → Nat} (hG : Good w t) (hA : Agr w c e) (h : Rel I q w) (hs : s < 8) (hc : 0 < cM w s) :
    Rel (fX2_sendFirst_t I q c (lgM w) s) q (sndW w s) ∧ ∀ z k, (z < q ∨ q + 83 ≤ z) → fX2_sendFirst_t I q c (lgM w) s z k = I z k := by
  have hlm : lgM w ≤ 40 := hG.1.2.2.2.2.2
  have r9 := h.2.2.2.1.2
  rw [sf_eq, hA.1 s hs]
  unfold fX0_isFull
  by_cases hf : lgM w < 40
  · have hn : ¬ lgM w = 40 := by omega
    rw [if_pos hf, if_neg (by decide)]
    refine sfB_rel hG h hs hc (by unfold lg1; rw [if_neg hn]) (fun _ _ _ => rfl) (fun k hk => ?_)
    rw [if_neg hn, if_neg hn, if_neg hn, if_neg hn]
    exact r9 k hk
  · have hn : lgM w = 40 := by omega
    rw [if_neg hf, if_pos rfl]
    obtain ⟨b1, b2, b3⟩ := rm_spec (I := I) (a := q + 78) (c := lgM w)
    refine sfB_rel hG h hs hc (by unfold lg1; rw [if_pos hn, hn]) (fun z k hz => b1 z k (by omega)) (fun k hk => ?_)
    rw [if_pos hn, if_pos hn, if_pos hn, if_pos hn]
    obtain ⟨u1, u2, u3, u4⟩ := b3 k (by omega)
    rw [u1, u2, u3, u4]
    exact r9 (k + 1) (by omega)
