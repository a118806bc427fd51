/-! part 34: blocking frames, candidates, the next stream: of a row, of the class, of the reference -/
def cntN (w : Nat → Int32) (a ep : Nat) : Nat := lp (cM w a) (fun k n => if ep < eM w a k then n else n + 1) 0
def blkN (w : Nat → Int32) (s : Nat) : Nat := lp 8 (fun a n => if (clo (mk w (185 + 8 * eM w s 0)) a).testBit s = true then n + cntN w a (eM w s 0) else n) 0
def candR (w : Nat → Int32) (s : Nat) : Bool := decide (0 < cM w s) && decide (blkN w s = 0)
def lessR (w : Nat → Int32) (s t : Nat) : Bool := !decide (0 ≤ lg_cmp (((w (16 + s)).toInt64) * ((w (8 + t)).toInt64)) (((w (16 + t)).toInt64) * ((w (8 + s)).toInt64)))
def nxtN (w : Nat → Int32) : Nat := lp 8 (fun s b => if candR w s = true then (if b = 9 then s else if lessR w s b = true then s else b) else b) 9
def enc (n : Nat) : Int32 := if n = 9 then -9 else nI n
theorem enc_lt {n : Nat} (h : n < 8) : enc n = nI n := if_neg (by omega)
theorem nI_n9 : ∀ n, n < 8 → ¬ nI n = -9 := by decide +kernel
theorem cntN_le (w : Nat → Int32) (a ep : Nat) : cntN w a ep ≤ cM w a := by
  unfold cntN
  refine lp_inv (fun i n => n ≤ i) (Nat.le_refl 0) (fun i z hi hz => ?_)
  by_cases h : ep < eM w a i
  · simp only [if_pos h]; omega
  · simp only [if_neg h]; omega
theorem blkN_le {w : Nat → Int32} (hG : WfC w) (s : Nat) : blkN w s ≤ 48 := by
  unfold blkN
  refine lp_inv (n := 8) (fun i n => n ≤ 6 * i) (Nat.le_refl 0) (fun i z hi hz => ?_)
  have h1 := cntN_le w i (eM w s 0)
  have h2 := cM_le hG hi
  by_cases h : (clo (mk w (185 + 8 * eM w s 0)) i).testBit s = true
  · simp only [if_pos h]; omega
  · simp only [if_neg h]; omega
theorem ep_le {w : Nat → Int32} (hG : WfC w) {s k : Nat} (hs : s < 8) (hk : k < cM w s) : w (32 + 18 * s + 3 * k + 2) = nI (eM w s k) ∧ eM w s k ≤ 9 ∧ eM w s k ≤ epM w := by
  have h := hG.2.1 s hs k hk
  have := hG.2.2.2.1
  exact ⟨h.1, by omega, h.2⟩
theorem cnt_X {I : hm_I} {q : Nat} {w : Nat → Int32} {c : Nat → Nat} {e : Nat → Nat → Nat} (hG : WfC w) (hA : Agr w c e) (hQ : RelQ I q w) {a ep : Nat} (ha : a < 8) (hep : ep ≤ 9) : fX0_countOfEpochUpTo I (q + 4 + 5 * a) (c a) (nI ep) = nI (cntN w a ep) := by
  unfold fX0_countOfEpochUpTo cntN
  rw [hA.1 a ha]
  refine lq_rel (fun i x y => x = nI y) rfl (fun i u v hi huv => ?_)
  have h := ep_le hG ha hi
  simp only [(hQ.2 a ha i hi).2.2, h.1, nI_ltI (show ep < 2 ^ 31 by omega) (show eM w a i < 2 ^ 31 by omega), huv]
  by_cases h' : ep < eM w a i
  · rw [if_pos h', if_pos h']
  · rw [if_neg h', if_neg h', nI_1]
theorem blk_X {I : hm_I} {q t : Nat} {w : Nat → Int32} {c : Nat → Nat} {e : Nat → Nat → Nat} (hG : Good w t) (hA : Agr w c e) (hQ : RelQ I q w) (hE : RelE I q w) {s : Nat} (hs : s < 8) (hc : 0 < cM w s) : fX2_blockersOfFirst_t I q c e s = nI (blkN w s) := by
  unfold fX2_blockersOfFirst_t blkN
  rw [hA.2 s hs 0 hc]
  have he := ep_le hG.1 hs hc
  refine lq_rel (n := 8) (fun i x y => x = nI y) rfl (fun i u v hi huv => ?_)
  simp only [RelO_pre (hG.2.2.1.2 _ he.2.2) (hE.2.1 _ he.2.2) hi hs, cnt_X hG.1 hA hQ hi he.2.1, huv]
  by_cases h : (clo (mk w (185 + 8 * eM w s 0)) i).testBit s = true
  · rw [if_pos h, if_pos h, nI_add]
  · rw [if_neg h, if_neg h]
theorem cand_X {I : hm_I} {q t : Nat} {w : Nat → Int32} {c : Nat → Nat} {e : Nat → Nat → Nat} (hG : Good w t) (hA : Agr w c e) (hQ : RelQ I q w) (hE : RelE I q w) {s : Nat} (hs : s < 8) : fX2_isCandidate_t I q c e s = candR w s := by
  unfold fX2_isCandidate_t candR
  rw [hA.1 s hs]
  by_cases h : cM w s = 0
  · rw [if_pos h, decide_eq_false (by omega), Bool.false_and]
  · have hb := blkN_le hG.1 s
    rw [if_neg h, blk_X hG hA hQ hE hs (by omega), decide_eq_true (show 0 < cM w s by omega), Bool.true_and]
    by_cases h2 : blkN w s = 0
    · rw [h2, if_pos nI_0, decide_eq_true rfl]
    · rw [if_neg (nI_ne0 (by omega) (by omega)), decide_eq_false h2]
theorem cand_c {w : Nat → Int32} {s : Nat} (h : candR w s = true) : 0 < cM w s ∧ blkN w s = 0 := by
  unfold candR at h
  rw [Bool.and_eq_true, decide_eq_true_iff, decide_eq_true_iff] at h
  exact h
theorem opn_c {w : Nat → Int32} (hO : OpnOk w) {s : Nat} (hs : s < 8) (hc : 0 < cM w s) : w s = nI 1 := by
  rcases (hO s hs).1 with h | h
  · have := ((hO s hs).2 h).2.2
    omega
  · exact h
theorem less_X {I : hm_I} {q : Nat} {w : Nat → Int32} (hW : RelW I q w) {s t : Nat} (hs : s < 8) (ht : t < 8) (hos : w s = nI 1) (hot : w t = nI 1) : fX2_isLessServed_t I q s t = lessR w s t := by
  unfold fX2_isLessServed_t lessR
  rw [(hW.2 s hs hos).1, (hW.2 s hs hos).2, (hW.2 t ht hot).1, (hW.2 t ht hot).2]
  by_cases h : 0 ≤ lg_cmp (((w (16 + s)).toInt64) * ((w (8 + t)).toInt64)) (((w (16 + t)).toInt64) * ((w (8 + s)).toInt64))
  · rw [if_pos h, decide_eq_true h]; rfl
  · rw [if_neg h, decide_eq_false h]; rfl
theorem st_8 : ∀ n, n < 8 → fX3_isStream (nI n) = true := by decide +kernel
theorem next_X {I : hm_I} {q t : Nat} {w : Nat → Int32} {c : Nat → Nat} {e : Nat → Nat → Nat} (hG : Good w t) (hA : Agr w c e) (hW : RelW I q w) (hQ : RelQ I q w) (hE : RelE I q w) : fX2_nextStream I q c e = enc (nxtN w) := by
  unfold fX2_nextStream nxtN
  refine (lq_rel (n := 8) (fun i x y => x = enc y ∧ (y = 9 ∨ (y < 8 ∧ candR w y = true))) ⟨rfl, Or.inl rfl⟩ (fun i u v hi huv => ?_)).1
  obtain ⟨hu, hv⟩ := huv
  simp only [cand_X hG hA hQ hE hi]
  by_cases h : candR w i = true
  · simp only [if_pos h]
    rcases hv with hv | ⟨hv, hv2⟩
    · subst hv
      have e1 : u = -9 := hu
      rw [if_pos e1, if_pos rfl]
      exact ⟨(enc_lt hi).symm, Or.inr ⟨hi, h⟩⟩
    · have e1 : u = nI v := hu.trans (enc_lt hv)
      have e2 : ¬ v = 9 := by omega
      have e3 : fX2_isLessServed_z I q i (nI v) = lessR w i v := by
        unfold fX2_isLessServed_z
        rw [if_pos (st_8 v hv), nI_clamp (by omega)]
        exact less_X hW hi hv (opn_c hG.2.1 hi (cand_c h).1) (opn_c hG.2.1 hv (cand_c hv2).1)
      rw [e1, if_neg (nI_n9 v hv), if_neg e2, e3]
      by_cases h3 : lessR w i v = true
      · rw [if_pos h3, if_pos h3]; exact ⟨(enc_lt hi).symm, Or.inr ⟨hi, h⟩⟩
      · rw [if_neg h3, if_neg h3]; exact ⟨(enc_lt hv).symm, Or.inr ⟨hv, hv2⟩⟩
  · simp only [if_neg h]
    exact ⟨hu, hv⟩
/-! where a frame waits, there is a next stream -/
theorem ex_min {Pr : Nat → Prop} (f : Nat → Nat) : ∀ n s, Pr s → f s ≤ n → ∃ s, Pr s ∧ ∀ t, Pr t → f s ≤ f t := by
  intro n
  induction n with
  | zero => intro s hs h; exact ⟨s, hs, fun t _ => by omega⟩
  | succ n ih =>
    intro s hs h
    by_cases hx : ∃ t, Pr t ∧ f t < f s
    · obtain ⟨t, ht, hlt⟩ := hx
      exact ih t ht (by omega)
    · refine ⟨s, hs, fun t ht => ?_⟩
      rcases Nat.lt_or_ge (f t) (f s) with q | q
      · exact absurd ⟨t, ht, q⟩ hx
      · exact q
theorem ep_mono {w : Nat → Int32} {t : Nat} (hQ : QueOk w t) {s : Nat} (hs : s < 8) : ∀ k, k < cM w s → eM w s 0 ≤ eM w s k := by
  intro k
  induction k with
  | zero => intro _; exact Nat.le_refl _
  | succ k ih => intro hk; exact Nat.le_trans (ih (by omega)) (hQ.1 s hs k hk)
theorem cnt_0 {w : Nat → Int32} {a ep : Nat} (h : ∀ k, k < cM w a → ep < eM w a k) : cntN w a ep = 0 := by
  unfold cntN
  refine lp_inv (n := cM w a) (fun _ n => n = 0) rfl (fun i z hi hz => ?_)
  simp only [if_pos (h i hi)]
  exact hz
theorem cand_ex {w : Nat → Int32} {t : Nat} (hG : Good w t) (hx : ∃ s, s < 8 ∧ 0 < cM w s) : ∃ s, s < 8 ∧ candR w s = true := by
  obtain ⟨s0, h0, hc0⟩ := hx
  obtain ⟨s1, ⟨h1, hc1⟩, hmin⟩ := ex_min (Pr := fun s => s < 8 ∧ 0 < cM w s) (fun s => eM w s 0) _ s0 ⟨h0, hc0⟩ (Nat.le_refl _)
  have he := ep_le hG.1 h1 hc1
  have hO := hG.2.2.1.2 _ he.2.2
  obtain ⟨s, hs, ⟨hc, hes⟩, hfirst⟩ := ex_first (N := mk w (185 + 8 * eM w s1 0)) hO.2 (fun s => 0 < cM w s ∧ eM w s 0 = eM w s1 0) 8 (Nat.le_refl 8) ⟨s1, h1, hc1, rfl⟩
  refine ⟨s, hs, ?_⟩
  unfold candR
  rw [decide_eq_true hc, Bool.true_and, decide_eq_true_iff]
  unfold blkN
  rw [hes]
  refine lp_inv (n := 8) (fun _ n => n = 0) rfl (fun a z ha hz => ?_)
  by_cases h : (clo (mk w (185 + 8 * eM w s1 0)) a).testBit s = true
  · simp only [if_pos h]
    rw [hz, cnt_0 (fun k hk => ?_)]
    have hca : 0 < cM w a := by omega
    have g1 := hmin a ⟨ha, hca⟩
    have g2 := ep_mono hG.2.2.2 ha k hk
    have g3 : ¬ eM w a 0 = eM w s1 0 := fun q => hfirst a ha ⟨hca, q⟩ h
    have g1' : eM w s1 0 ≤ eM w a 0 := g1
    omega
  · simp only [if_neg h]
    exact hz
theorem nxt_spec (w : Nat → Int32) : (nxtN w = 9 ∧ ∀ s, s < 8 → candR w s = false) ∨ (nxtN w < 8 ∧ candR w (nxtN w) = true) := by
  unfold nxtN
  refine lp_inv (n := 8) (fun i y => (y = 9 ∧ ∀ s, s < i → candR w s = false) ∨ (y < 8 ∧ candR w y = true)) (Or.inl ⟨rfl, fun s hs => absurd hs (Nat.not_lt_zero s)⟩) (fun i z hi hz => ?_)
  by_cases h : candR w i = true
  · simp only [if_pos h]
    right
    rcases hz with ⟨hz, -⟩ | ⟨hz, hz2⟩
    · rw [if_pos hz]; exact ⟨hi, h⟩
    · rw [if_neg (by omega)]
      by_cases h3 : lessR w i z = true
      · rw [if_pos h3]; exact ⟨hi, h⟩
      · rw [if_neg h3]; exact ⟨hz, hz2⟩
  · simp only [if_neg h]
    rcases hz with ⟨hz, hz2⟩ | hz
    · left
      refine ⟨hz, fun s hs => ?_⟩
      by_cases e : s = i
      · subst e; simpa using h
      · exact hz2 s (by omega)
    · exact Or.inr hz
theorem nxt_some {w : Nat → Int32} {t : Nat} (hG : Good w t) (hx : ∃ s, s < 8 ∧ 0 < cM w s) : nxtN w < 8 ∧ 0 < cM w (nxtN w) := by
  rcases nxt_spec w with ⟨-, h⟩ | ⟨h, h2⟩
  · obtain ⟨s, hs, hc⟩ := cand_ex hG hx
    rw [h s hs] at hc
    exact absurd hc (by decide)
  · exact ⟨h, (cand_c h2).1⟩
theorem nxt_none {w : Nat → Int32} (hx : ∀ s, s < 8 → cM w s = 0) : nxtN w = 9 := by
  rcases nxt_spec w with ⟨h, -⟩ | ⟨h, h2⟩
  · exact h
  · have := (cand_c h2).1
    rw [hx _ h] at this
    exact absurd this (Nat.not_lt_zero _)
