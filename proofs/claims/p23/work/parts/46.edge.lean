/-! part 46: edge, commit, revert -/
/-! part 46: edge, commit, revert -/
theorem Good_o {w w' : Nat → Int32} {t : Nat} (h : ∀ k, (k < 176 ∨ 265 ≤ k) → w' k = w k) (h184 : w' 184 = nI (epM w') ∧ epM w ≤ epM w' ∧ epM w' ≤ 9) (ho : OrdOk w' 176 ∧ ∀ e, e ≤ epM w' → OrdOk w' (185 + 8 * e)) (hG : Good w t) : Good w' t := by
  obtain ⟨⟨g1, g2, g3, g4, g5, g6⟩, hO, -, q1, ⟨come, q2, q3, q4⟩, q5, q6⟩ := hG
  have c1 : ∀ s, s < 8 → cM w' s = cM w s := fun s hs => by unfold cM; rw [h _ (by omega)]
  have c4 : lgM w' = lgM w := by unfold lgM; rw [h _ (by omega)]
  have ce : ∀ s k j, s < 8 → k < cM w' s → j < 3 → w' (32 + 18 * s + 3 * k + j) = w (32 + 18 * s + 3 * k + j) := fun s k j hs hk hj => by
    rw [c1 s hs] at hk
    have := (g1 s hs).2
    exact h _ (by omega)
  have c2 : ∀ s k, s < 8 → k < cM w' s → eM w' s k = eM w s k := fun s k hs hk => congrArg Int32.toNatClampNeg (ce s k 2 hs hk (by omega))
  have c5 : ∀ s k, s < 8 → k < cM w' s → numM w' s k = numM w s k := fun s k hs hk => congrArg Int32.toNatClampNeg (ce s k 0 hs hk (by omega))
  have c6 : ∀ s k, s < 8 → k < cM w' s → szR w' s k = szR w s k := fun s k hs hk => congrArg Int32.toNatClampNeg (ce s k 1 hs hk (by omega))
  refine ⟨⟨fun s hs => ?_, fun s hs k hk => ?_, h184.1, h184.2.2, ?_, ?_⟩, fun s hs => ⟨?_, fun h0 => ?_⟩, ho, fun s hs k hk => ?_, ⟨come, ?_, q3, fun s hs k hk => ?_⟩, fun s1 hs1 s2 hs2 k1 hk1 k2 hk2 heq => ?_, fun s hs k hk => ?_⟩
  · rw [c1 s hs, h _ (by omega)]; exact g1 s hs
  · rw [c2 s k hs hk, ce s k 2 hs hk (by omega)]
    rw [c1 s hs] at hk
    exact ⟨(g2 s hs k hk).1, Nat.le_trans (g2 s hs k hk).2 h184.2.1⟩
  · rw [c4, h _ (by omega)]; exact g5
  · rw [c4]; exact g6
  · rw [h _ (by omega)]; exact (hO s hs).1
  · rw [h _ (by omega)] at h0
    rw [h _ (by omega), h _ (by omega), c1 s hs]; exact (hO s hs).2 h0
  · rw [c2 s k hs (by omega), c2 s (k + 1) hs hk]
    rw [c1 s hs] at hk
    exact q1 s hs k hk
  · rw [h _ (by omega)]; exact q2
  · rw [c5 s k hs hk, show w' (32 + 18 * s + 3 * k) = _ from ce s k 0 hs hk (by omega)]
    rw [c1 s hs] at hk
    exact q4 s hs k hk
  · rw [c5 s1 k1 hs1 hk1, c5 s2 k2 hs2 hk2] at heq
    rw [c1 s1 hs1] at hk1
    rw [c1 s2 hs2] at hk2
    exact q5 s1 hs1 s2 hs2 k1 hk1 k2 hk2 heq
  · rw [c6 s k hs hk, ce s k 1 hs hk (by omega)]
    rw [c1 s hs] at hk
    exact q6 s hs k hk
theorem Rel_o {I : hm_I} {q t : Nat} {w w' : Nat → Int32} (h : ∀ k, (k < 176 ∨ 265 ≤ k) → w' k = w k) (hG : Good w t) (hW : RelW I q w) (hQ : RelQ I q w) (hE : RelE I q w') (hL : RelL I q w) (h7 : I q 7 = w 265) (h8 : I q 8 = w 266) : Rel I q w' := by
  have c1 : ∀ s, s < 8 → cM w' s = cM w s := fun s hs => by unfold cM; rw [h _ (by omega)]
  have c4 : lgM w' = lgM w := by unfold lgM; rw [h _ (by omega)]
  refine ⟨⟨?_, fun s hs ho => ?_⟩, ⟨fun s hs => ?_, fun s hs k hk => ?_⟩, hE, ⟨?_, fun k hk => ?_⟩, ?_, ?_⟩
  · rw [osM_cong (fun i hi => h _ (by omega))]; exact hW.1
  · rw [h _ (by omega)] at ho
    rw [h _ (by omega), h _ (by omega)]; exact hW.2 s hs ho
  · rw [h _ (by omega)]; exact hQ.1 s hs
  · rw [c1 s hs] at hk
    have := cM_le hG.1 hs
    rw [h _ (by omega), h _ (by omega), h _ (by omega)]; exact hQ.2 s hs k hk
  · rw [h _ (by omega)]; exact hL.1
  · rw [c4] at hk
    rw [h _ (by omega), h _ (by omega), h _ (by omega), h _ (by omega)]; exact hL.2 k hk
  · rw [h _ (by omega)]; exact h7
  · rw [h _ (by omega)]; exact h8
def eW (w : Nat → Int32) (i : Nat) (v : Int32) : Nat → Int32 := fun k => if k = 176 + i then v else w k
theorem eW_no {w : Nat → Int32} {i k : Nat} {v : Int32} (h : k ≠ 176 + i) : eW w i v k = w k := if_neg h
theorem eW_mk {w : Nat → Int32} {i V : Nat} (hV : V < 256) : ∀ a, mk (eW w i (nI V)) 176 a = if a = i then V else mk w 176 a := by
  intro a
  unfold mk eW
  by_cases e : a = i
  · rw [if_pos (by omega), if_pos e, nI_clamp (by omega)]
  · rw [if_neg (by omega), if_neg e]
theorem eW_ord {w : Nat → Int32} {i V : Nat} (hO : OrdOk w 176) (hV : V < 256) (hA : Acy (fun a => if a = i then V else mk w 176 a)) : OrdOk (eW w i (nI V)) 176 := by
  refine ⟨fun a ha => ?_, fun a ha => ?_⟩
  · rw [eW_mk hV a]
    by_cases e : a = i
    · rw [if_pos e, e]; exact ⟨if_pos rfl, hV⟩
    · rw [if_neg e, eW_no (by omega)]; exact hO.1 a ha
  · rw [clo_cong (fun s _ => eW_mk hV s) a ha]; exact hA a ha
theorem Good_edge {w : Nat → Int32} {t i V : Nat} (hG : Good w t) (hi : i < 8) (hV : V < 256) (hA : Acy (fun a => if a = i then V else mk w 176 a)) : Good (eW w i (nI V)) t := by
  have e1 : epM (eW w i (nI V)) = epM w := by unfold epM; rw [eW_no (by omega)]
  refine Good_o (fun k hk => eW_no (by omega)) ⟨by rw [e1, eW_no (by omega)]; exact hG.1.2.2.1, by rw [e1]; exact Nat.le_refl _, by rw [e1]; exact good_ep hG⟩ ⟨eW_ord hG.2.2.1.1 hV hA, fun e he => ?_⟩ hG
  rw [e1] at he
  exact OrdOk_cong (fun a ha => eW_no (by omega)) (hG.2.2.1.2 e he)
theorem Rel_edge {R : hm_I} {p t i V : Nat} {w : Nat → Int32} (hG : Good w t) (h : Rel R p w) (hi : i < 8) (hV : V < 256) :
    Rel (fX1_findPreceded (hm_put R (p + 44 + 1) i (nI V)) (p + 44)) p (eW w i (nI V)) ∧ ∀ z k, z ≠ p + 45 → z ≠ p + 46 → fX1_findPreceded (hm_put R (p + 44 + 1) i (nI V)) (p + 44) z k = R z k := by
  obtain ⟨r1, r2, r3, r4, r5, r6⟩ := h
  have hO := hG.2.2.1.1
  have e1 : epM (eW w i (nI V)) = epM w := by unfold epM; rw [eW_no (by omega)]
  obtain ⟨f1, f2⟩ := fp_spec (I := hm_put R (p + 44 + 1) i (nI V)) (a := p + 44) (N := mk (eW w i (nI V)) 176) (fun s hs => by
    rw [eW_mk hV s]
    by_cases e : s = i
    · rw [if_pos e, e, hm_put_at]; exact ⟨rfl, hV⟩
    · rw [if_neg e, hp_n (Or.inr e), (r3.1 s hs).1]; exact hO.1 s hs)
  have fr : ∀ z k, z ≠ p + 45 → z ≠ p + 46 → fX1_findPreceded (hm_put R (p + 44 + 1) i (nI V)) (p + 44) z k = R z k := fun z k z1 z2 => by rw [f1 z k (by omega), hp_n (Or.inl (by omega))]
  refine ⟨Rel_o (fun k hk => eW_no (by omega)) hG (RelW_frame (fr _ _ (by omega) (by omega)) (fun a k h1 h2 => fr a k (by omega) (by omega)) r1) (RelQ_frame (fun a k h1 h2 => fr a k (by omega) (by omega)) r2) ⟨fun a ha => ⟨?_, f2 a ha⟩, fun e he => ?_, ?_⟩ (RelL_frame (fun a k h1 h2 => fr a k (by omega) (by omega)) r4) ((fr _ _ (by omega) (by omega)).trans r5) ((fr _ _ (by omega) (by omega)).trans r6), fr⟩
  · rw [f1 _ _ (by omega)]
    by_cases e : a = i
    · rw [e, hm_put_at]; exact (if_pos rfl).symm
    · rw [hp_n (Or.inr e), eW_no (by omega)]; exact (r3.1 a ha).1
  · rw [e1] at he
    exact RelO_cong (fun a ha => eW_no (by omega)) (RelO_frame (fun a k h1 h2 => fr a k (by omega) (by omega)) (r3.2.1 e he))
  · rw [e1, fr _ _ (by omega) (by omega)]; exact r3.2.2
def mW (w : Nat → Int32) : Nat → Int32 := fun k => if 185 + 8 * (epM w + 1) ≤ k ∧ k < 185 + 8 * (epM w + 1) + 8 then w (176 + (k - (185 + 8 * (epM w + 1)))) else if k = 184 then nI (epM w + 1) else w k
theorem mW_no {w : Nat → Int32} {k : Nat} (h1 : k < 185 + 8 * (epM w + 1) ∨ 185 + 8 * (epM w + 1) + 8 ≤ k) (h2 : k ≠ 184) : mW w k = w k := by
  unfold mW; rw [if_neg (by omega), if_neg h2]
theorem mW_in {w : Nat → Int32} {a : Nat} (ha : a < 8) : mW w (185 + 8 * (epM w + 1) + a) = w (176 + a) := by
  unfold mW; rw [if_pos (by omega)]
  exact congrArg w (by omega)
theorem mW_184 {w : Nat → Int32} : mW w 184 = nI (epM w + 1) := by
  unfold mW; rw [if_neg (by omega), if_pos rfl]
theorem mW_ep {w : Nat → Int32} (h : epM w < 9) : epM (mW w) = epM w + 1 := by
  have e : epM (mW w) = (mW w 184).toNatClampNeg := rfl
  rw [e, mW_184, nI_clamp (by omega)]
theorem OrdOk_at {w w' : Nat → Int32} {r r' : Nat} (h : ∀ a, a < 8 → w' (r' + a) = w (r + a)) (hO : OrdOk w r) : OrdOk w' r' := by
  have hm : ∀ a, a < 8 → mk w' r' a = mk w r a := fun a ha => by unfold mk; rw [h a ha]
  refine ⟨fun a ha => ?_, fun a ha => ?_⟩
  · rw [h a ha, hm a ha]; exact hO.1 a ha
  · rw [clo_cong hm a ha]; exact hO.2 a ha
theorem RelO_at {I I' : hm_I} {o o' : Nat} {w w' : Nat → Int32} {r r' : Nat} (h : ∀ a, a < 8 → w' (r' + a) = w (r + a)) (hI : ∀ a, a < 8 → I' (o' + 1) a = I (o + 1) a ∧ I' (o' + 2) a = I (o + 2) a) (hO : RelO I o w r) : RelO I' o' w' r' := by
  have hm : ∀ a, a < 8 → mk w' r' a = mk w r a := fun a ha => by unfold mk; rw [h a ha]
  intro a ha
  rw [h a ha, clo_cong hm a ha, (hI a ha).1, (hI a ha).2]
  exact hO a ha
theorem Good_commit {w : Nat → Int32} {t : Nat} (hG : Good w t) (he : epM w < 9) : Good (mW w) t := by
  have e1 := mW_ep he
  refine Good_o (fun k hk => mW_no (by omega) (by omega)) ⟨by rw [e1]; exact mW_184, by omega, by omega⟩ ⟨OrdOk_cong (fun a ha => mW_no (by omega) (by omega)) hG.2.2.1.1, fun e hee => ?_⟩ hG
  rw [e1] at hee
  by_cases q : e = epM w + 1
  · rw [q]; exact OrdOk_at (fun a ha => mW_in ha) hG.2.2.1.1
  · exact OrdOk_cong (fun a ha => mW_no (by omega) (by omega)) (hG.2.2.1.2 e (by omega))
theorem commit_X {R : hm_I} {p t : Nat} {w : Nat → Int32} (hG : Good w t) (h : Rel R p w) (he : epM w < 9) :
    Rel (fX2_beginEpoch_t R p (epM w + 1)) p (mW w) ∧ ∀ z k, outq z p → fX2_beginEpoch_t R p (epM w + 1) z k = R z k := by
  obtain ⟨r1, r2, r3, r4, r5, r6⟩ := h
  obtain ⟨f1, f2, f3⟩ := cpO (I := R) (a := p + 48 + 3 * (epM w + 1)) (b := p + 44) (by omega)
  have e1 := mW_ep he
  have fr : ∀ z k, z ≠ p → (z < p + 48 + 3 * (epM w + 1) ∨ p + 48 + 3 * (epM w + 1) + 3 ≤ z) → fX2_beginEpoch_t R p (epM w + 1) z k = R z k := fun z k h1 h2 => by
    unfold fX2_beginEpoch_t
    rw [hp_n (Or.inl h1), f1 z k h2]
  have fp : ∀ k, k ≠ 6 → fX2_beginEpoch_t R p (epM w + 1) p k = R p k := fun k hk => by
    unfold fX2_beginEpoch_t
    rw [hp_n (Or.inr hk), f1 p k (by omega)]
  refine ⟨Rel_o (fun k hk => mW_no (by omega) (by omega)) hG (RelW_frame (fp 0 (by omega)) (fun a k h1 h2 => fr a k (by omega) (by omega)) r1) (RelQ_frame (fun a k h1 h2 => fr a k (by omega) (by omega)) r2) ⟨?_, fun e hee => ?_, ?_⟩ (RelL_frame (fun a k h1 h2 => fr a k (by omega) (by omega)) r4) ((fp 7 (by omega)).trans r5) ((fp 8 (by omega)).trans r6), fun z k hz => ?_⟩
  · exact RelO_cong (fun a ha => mW_no (by omega) (by omega)) (RelO_frame (fun a k h1 h2 => fr a k (by omega) (by omega)) r3.1)
  · rw [e1] at hee
    by_cases q : e = epM w + 1
    · rw [q]
      refine RelO_at (fun a ha => mW_in ha) (fun a ha => ?_) r3.1
      unfold fX2_beginEpoch_t
      rw [hp_n (Or.inl (by omega)), hp_n (Or.inl (by omega))]
      exact f3 a ha
    · exact RelO_cong (fun a ha => mW_no (by omega) (by omega)) (RelO_frame (fun a k h1 h2 => fr a k (by omega) (by omega)) (r3.2.1 e (by omega)))
  · rw [e1]; exact hm_put_at _ _ _ _
  · unfold outq at hz
    exact fr z k (by omega) (by omega)
/-! revert -/
def rW (w : Nat → Int32) (e : Nat) : Nat → Int32 := fun k => if 176 ≤ k ∧ k < 176 + 8 then w (185 + 8 * e + (k - 176)) else w k
theorem rW_no {w : Nat → Int32} {e k : Nat} (h : k < 176 ∨ 184 ≤ k) : rW w e k = w k := if_neg (by omega)
theorem rW_in {w : Nat → Int32} {e a : Nat} (ha : a < 8) : rW w e (176 + a) = w (185 + 8 * e + a) := by
  unfold rW; rw [if_pos (by omega)]
  exact congrArg w (by omega)
theorem Good_revert {w : Nat → Int32} {t e : Nat} (hG : Good w t) (he : e ≤ epM w) : Good (rW w e) t := by
  have e1 : epM (rW w e) = epM w := by unfold epM; rw [rW_no (by omega)]
  refine Good_o (fun k hk => rW_no (by omega)) ⟨by rw [e1, rW_no (by omega)]; exact hG.1.2.2.1, by omega, by rw [e1]; exact good_ep hG⟩ ⟨OrdOk_at (fun a ha => rW_in ha) (hG.2.2.1.2 e he), fun e' he' => ?_⟩ hG
  rw [e1] at he'
  exact OrdOk_cong (fun a ha => rW_no (by omega)) (hG.2.2.1.2 e' he')
theorem revert_X {R : hm_I} {p t e : Nat} {w : Nat → Int32} (hG : Good w t) (h : Rel R p w) (he : e ≤ epM w) :
    Rel (fX1_copyFrom R (p + 44) (p + 48 + 3 * e)) p (rW w e) ∧ ∀ z k, outq z p → fX1_copyFrom R (p + 44) (p + 48 + 3 * e) z k = R z k := by
  obtain ⟨r1, r2, r3, r4, r5, r6⟩ := h
  obtain ⟨f1, f2, f3⟩ := cpO (I := R) (a := p + 44) (b := p + 48 + 3 * e) (by omega)
  have e1 : epM (rW w e) = epM w := by unfold epM; rw [rW_no (by omega)]
  have hep := good_ep hG
  refine ⟨Rel_o (fun k hk => rW_no (by omega)) hG (RelW_frame (f1 _ _ (by omega)) (fun a k h1 h2 => f1 a k (by omega)) r1) (RelQ_frame (fun a k h1 h2 => f1 a k (by omega)) r2) ⟨?_, fun e' hee => ?_, ?_⟩ (RelL_frame (fun a k h1 h2 => f1 a k (by omega)) r4) ((f1 _ _ (by omega)).trans r5) ((f1 _ _ (by omega)).trans r6), fun z k hz => ?_⟩
  · exact RelO_at (fun a ha => rW_in ha) (fun a ha => f3 a ha) (r3.2.1 e he)
  · rw [e1] at hee
    exact RelO_cong (fun a ha => rW_no (by omega)) (RelO_frame (fun a k h1 h2 => f1 a k (by omega)) (r3.2.1 e' hee))
  · rw [e1, f1 _ _ (by omega)]; exact r3.2.2
  · unfold outq at hz
    exact f1 z k (by omega)
def edgN (N : Nat → Nat) : Nat := lp 8 (fun a n => n + pcN (N a)) 0
theorem edges_X {I : hm_I} {o : Nat} {N : Nat → Nat} (h : ∀ a, a < 8 → I (o + 1) a = nI (N a) ∧ N a < 256) : fX1_edgeCount I o = nI (edgN N) := by
  unfold fX1_edgeCount edgN
  refine lq_rel (n := 8) (fun _ x y => x = nI y) rfl (fun i x y hi hxy => ?_)
  rw [(h i hi).1, fb_cnt _ (h i hi).2, (pcN_spec _ (h i hi).2).1, hxy, nI_add]
def cEdge (w : Nat → Int32) (a0 b0 c0 : Int32) : Int32 × Option (Nat → Int32) :=
  if (fX3_areTwoStreams a0 b0 && fX4_isIn c0 (nI 0) (nI 1)) = true then
    (if c0 = nI 0 then ((if (mk w 176 a0.toNatClampNeg).testBit b0.toNatClampNeg = true then nI 1 else nI 0), some (eW w a0.toNatClampNeg (nI (mk w 176 a0.toNatClampNeg &&& (255 ^^^ 2 ^ b0.toNatClampNeg)))))
    else if (clo (mk w 176) b0.toNatClampNeg).testBit a0.toNatClampNeg = true then (-4, none)
    else ((if (mk w 176 a0.toNatClampNeg).testBit b0.toNatClampNeg = true then nI 1 else nI 0), some (eW w a0.toNatClampNeg (nI (mk w 176 a0.toNatClampNeg ||| 2 ^ b0.toNatClampNeg)))))
  else (-1, none)
theorem op_edge (a0 b0 c0 : Int32) {n t : Nat} {w : Nat → Int32} {P Q : Nat → Nat → Int32} {kp : Nat → Bool} : OpX yX3_edge wsX3_edge [.int a0, .int b0, .int c0] t (t + 1) (n, w, P, Q, kp) (.int (cEdge w a0 b0 c0).1) (nxS (n, w, P, Q, kp) (cEdge w a0 b0 c0).2) := by
  intro l D T L A x Sh I J hI
  have gs := InvX_up hI
  obtain ⟨p, f, h, m, k, j, hs, im, g⟩ := hI
  change GIx L Sh I x p f h m k j hs im n w P Q kp t at g
  have hWs := c_wfsx g
  have hRel := c_relx g
  have g0 := g
  obtain ⟨gX, gA, gG, gx, gF⟩ := g
  have hO := gG.2.1.2.2.1.1
  unfold cEdge
  by_cases hb : (fX3_areTwoStreams a0 b0 && fX4_isIn c0 (nI 0) (nI 1)) = true
  · rw [if_pos hb]
    rw [Bool.and_eq_true] at hb
    obtain ⟨hb1, hc⟩ := hb
    obtain ⟨i, i', hi, hi', hne, e1, e2, -⟩ : ∃ i j, i < 8 ∧ j < 8 ∧ i ≠ j ∧ a0 = nI i ∧ b0 = nI j ∧ fX3_areTwoStreams a0 b0 = true := by
      rcases two_cases a0 b0 with ⟨h1, -⟩ | h
      · rw [h1] at hb1; exact absurd hb1 (by decide)
      · exact h
    obtain ⟨o, -, ho, eo⟩ := (within_iff (by decide) (by decide)).mp hc
    subst e1
    subst e2
    rw [nI_clamp (show i < 2 ^ 31 by omega), nI_clamp (show i' < 2 ^ 31 by omega)]
    have hNi := hO.1 i hi
    have o01 : o = 0 ∨ o = 1 := by omega
    rcases o01 with o01 | o01
    · subst o01
      subst eo
      rw [if_pos rfl]
      have hV : mk w 176 i &&& (255 ^^^ 2 ^ i') < 256 := m_and hNi.2
      have hAc : Acy (fun a => if a = i then mk w 176 i &&& (255 ^^^ 2 ^ i') else mk w 176 a) := acy_sub (N := mk w 176) hO.2 (fun a b' ha hb => by
        by_cases e : a = i
        · simp only [if_pos e, Nat.testBit_and, Bool.and_eq_true] at hb
          rw [e]; exact hb.1
        · simp only [if_neg e] at hb
          exact hb)
      obtain ⟨q1, q2⟩ := Rel_edge (V := mk w 176 i &&& (255 ^^^ 2 ^ i')) gG.2.1 hRel hi hV
      have eR : fX1_putEdge_t (recR I x p n hs w) (p + 44) i i' false = fX1_findPreceded (hm_put (recR I x p n hs w) (p + 44 + 1) i (nI (mk w 176 i &&& (255 ^^^ 2 ^ i')))) (p + 44) := by
        unfold fX1_putEdge_t
        rw [if_neg (by decide), (hRel.2.2.1.1 i hi).1, hNi.1, fb_setOf i' hi', fb_not (b := 2 ^ i') hNi.2]
      rw [← eR] at q1 q2
      have eX : fX3_edge_t0 I x p n hs (cM w) (epM w + 1) (lgM w) i i' = ((if (mk w 176 i).testBit i' = true then nI 1 else nI 0), fX1_putEdge_t (recR I x p n hs w) (p + 44) i i' false) := by
        show (if fX1_hasEdge_t (recR I x p n hs w) (p + 44) i i' = true then (nI 1, fX1_putEdge_t (recR I x p n hs w) (p + 44) i i' false) else (nI 0, fX1_putEdge_t (recR I x p n hs w) (p + 44) i i' false)) = _
        rw [RelO_edge hO hRel.2.2.1.1 hi hi']
        by_cases z : (mk w 176 i).testBit i' = true
        · rw [if_pos z, if_pos z]
        · rw [if_neg z, if_neg z]
      have hx3 := ctX3_edge_t0 (l := l) (D := D) (T := T) (L := L) (A := A) (Sh := Sh) (J := J) gX gA hWs gx.1 gG.1 hi hi' hne
      rw [eX] at hx3
      have h1 : ∀ z kk, outq z p → fX1_putEdge_t (recR I x p n hs w) (p + 44) i i' false z kk = recR I x p n hs w z kk := fun z kk hz => by
        unfold outq at hz
        exact q2 z kk (by omega) (by omega)
      exact ⟨recSh Sh h hs n, _, J, CtR.mk hx3 (by decide) (by decide) rfl, p, f, h, m, k, j, recH hs n, im, close_cx g0 (Agr_rf w) h1 q1 (Good_mono (Good_edge gG.2.1 hi hV hAc) (Nat.le_succ t))⟩
    · subst o01
      subst eo
      rw [if_neg (show ¬ nI 1 = nI 0 by decide)]
      by_cases hcy : (clo (mk w 176) i').testBit i = true
      · rw [if_pos hcy]
        have hx3 := ctX3_edge_c (l := l) (D := D) (T := T) (L := L) (A := A) (Sh := Sh) (J := J) gX gA hWs gx.1 gG.1 hi hi' hne ((RelO_pre hO gx.2.1.2.2.1.1 hi' hi).trans hcy)
        exact ⟨Sh, I, J, CtR.mk hx3 (by decide) (by decide) rfl, gs⟩
      rw [if_neg hcy]
      have hV : mk w 176 i ||| 2 ^ i' < 256 := m_or hNi.2 (pow_256 i' hi')
      have hAc : Acy (fun a => if a = i then mk w 176 i ||| 2 ^ i' else mk w 176 a) := acy_add (N := mk w 176) hi hi' hne hO.2 (nf hcy) (fun a b' ha hb => by
        by_cases e : a = i
        · simp only [if_pos e] at hb
          rw [Nat.testBit_or, Bool.or_eq_true] at hb
          rcases hb with hb | hb
          · left; rw [e]; exact hb
          · right
            rcases Nat.lt_or_ge b' 8 with z | z
            · rw [tb_pow i' hi' b' z, decide_eq_true_iff] at hb
              exact ⟨e, hb.symm⟩
            · rw [tb_big (pow_256 i' hi') z] at hb; exact absurd hb (by decide)
        · simp only [if_neg e] at hb
          exact Or.inl hb)
      obtain ⟨q1, q2⟩ := Rel_edge (V := mk w 176 i ||| 2 ^ i') gG.2.1 hRel hi hV
      have eR : fX1_putEdge_t (recR I x p n hs w) (p + 44) i i' true = fX1_findPreceded (hm_put (recR I x p n hs w) (p + 44 + 1) i (nI (mk w 176 i ||| 2 ^ i'))) (p + 44) := by
        unfold fX1_putEdge_t
        rw [if_pos rfl, (hRel.2.2.1.1 i hi).1, hNi.1, fb_setOf i' hi', fa_or]
      rw [← eR] at q1 q2
      have eX : fX3_edge_t1 I x p n hs (cM w) (epM w + 1) (lgM w) i i' = ((if (mk w 176 i).testBit i' = true then nI 1 else nI 0), fX1_putEdge_t (recR I x p n hs w) (p + 44) i i' true) := by
        show (if fX1_hasEdge_t (recR I x p n hs w) (p + 44) i i' = true then (nI 1, fX1_putEdge_t (recR I x p n hs w) (p + 44) i i' true) else (nI 0, fX1_putEdge_t (recR I x p n hs w) (p + 44) i i' true)) = _
        rw [RelO_edge hO hRel.2.2.1.1 hi hi']
        by_cases z : (mk w 176 i).testBit i' = true
        · rw [if_pos z, if_pos z]
        · rw [if_neg z, if_neg z]
      have hx3 := ctX3_edge_t1 (l := l) (D := D) (T := T) (L := L) (A := A) (Sh := Sh) (J := J) gX gA hWs gx.1 gG.1 hi hi' hne ((RelO_pre hO gx.2.1.2.2.1.1 hi' hi).trans (nf hcy))
      rw [eX] at hx3
      have h1 : ∀ z kk, outq z p → fX1_putEdge_t (recR I x p n hs w) (p + 44) i i' true z kk = recR I x p n hs w z kk := fun z kk hz => by
        unfold outq at hz
        exact q2 z kk (by omega) (by omega)
      exact ⟨recSh Sh h hs n, _, J, CtR.mk hx3 (by decide) (by decide) rfl, p, f, h, m, k, j, recH hs n, im, close_cx g0 (Agr_rf w) h1 q1 (Good_mono (Good_edge gG.2.1 hi hV hAc) (Nat.le_succ t))⟩
  · rw [if_neg hb]
    exact ⟨Sh, I, J, CtR.mk (ctX3_edge_b gX (nf hb)) (by decide) (by decide) rfl, gs⟩
def cCommit (w : Nat → Int32) : Int32 × Option (Nat → Int32) := if epM w = 9 then (-3, none) else (nI (epM w + 1), some (mW w))
theorem op_commit {n t : Nat} {w : Nat → Int32} {P Q : Nat → Nat → Int32} {kp : Nat → Bool} : OpX yX3_commit wsX3_commit [] t (t + 1) (n, w, P, Q, kp) (.int (cCommit w).1) (nxS (n, w, P, Q, kp) (cCommit w).2) := by
  intro l D T L A x Sh I J hI
  have gs := InvX_up hI
  obtain ⟨p, f, h, m, k, j, hs, im, g⟩ := hI
  change GIx L Sh I x p f h m k j hs im n w P Q kp t at g
  have hWs := c_wfsx g
  have hRel := c_relx g
  have g0 := g
  obtain ⟨gX, gA, gG, gx, gF⟩ := g
  have hep := good_ep gG.2.1
  unfold cCommit
  by_cases he : epM w = 9
  · rw [if_pos he]
    exact ⟨Sh, I, J, CtR.mk (ctX3_commit_f gX gA hWs gx.1 gG.1 (by omega)) (by decide) (by decide) rfl, gs⟩
  · rw [if_neg he]
    have he9 : epM w < 9 := by omega
    obtain ⟨q1, q2⟩ := commit_X gG.2.1 hRel he9
    have h1 : ∀ z kk, outq z p → (fX3_commit_t I x p n hs (cM w) (epM w + 1) (lgM w)).2 z kk = recR I x p n hs w z kk := q2
    exact ⟨recSh Sh h hs n, _, J, CtR.mk (ctX3_commit_t gX gA hWs gx.1 gG.1 (by omega)) (by decide) (by decide) rfl, p, f, h, m, k, j, recH hs n, im, close_cx g0 (Agr_rf w) h1 q1 (Good_mono (Good_commit gG.2.1 he9) (Nat.le_succ t))⟩
def cRevert (w : Nat → Int32) (a0 : Int32) : Int32 × Option (Nat → Int32) := if fX4_isIn a0 (nI 0) (nI (epM w)) = true then (nI (edgN (mk (rW w a0.toNatClampNeg) 176)), some (rW w a0.toNatClampNeg)) else (-1, none)
theorem op_revert (a0 : Int32) {n t : Nat} {w : Nat → Int32} {P Q : Nat → Nat → Int32} {kp : Nat → Bool} : OpX yX3_revert wsX3_revert [.int a0] t (t + 1) (n, w, P, Q, kp) (.int (cRevert w a0).1) (nxS (n, w, P, Q, kp) (cRevert w a0).2) := by
  intro l D T L A x Sh I J hI
  have gs := InvX_up hI
  obtain ⟨p, f, h, m, k, j, hs, im, g⟩ := hI
  change GIx L Sh I x p f h m k j hs im n w P Q kp t at g
  have hWs := c_wfsx g
  have hRel := c_relx g
  have g0 := g
  obtain ⟨gX, gA, gG, gx, gF⟩ := g
  have hep := good_ep gG.2.1
  unfold cRevert
  rcases epoch_cases a0 hep with ⟨h1, h2⟩ | ⟨e, he, ea, h1, h2⟩
  · rw [if_neg (by rw [h2]; decide)]
    exact ⟨Sh, I, J, CtR.mk (ctX3_revert_b gX gA hWs gx.1 gG.1 h1) (by decide) (by decide) rfl, gs⟩
  · subst ea
    rw [if_pos h2, nI_clamp (show e < 2 ^ 31 by omega)]
    obtain ⟨q1, q2⟩ := revert_X gG.2.1 hRel he
    have h1' : ∀ z kk, outq z p → (fX3_revert_t I x p n hs (cM w) (epM w + 1) (lgM w) e).2 z kk = recR I x p n hs w z kk := q2
    have hO' := (Good_revert gG.2.1 he).2.2.1.1
    refine ⟨recSh Sh h hs n, _, J, CtR.mk (ctX3_revert_t gX gA hWs gx.1 gG.1 (by omega) h1) (by decide) (by decide) ?_, p, f, h, m, k, j, recH hs n, im, close_cx g0 (Agr_rf w) h1' q1 (Good_mono (Good_revert gG.2.1 he) (Nat.le_succ t))⟩
    have ee := edges_X (I := fX1_copyFrom (recR I x p n hs w) (p + 44) (p + 48 + 3 * e)) (o := p + 44) (N := mk (rW w e) 176) (fun a ha => ⟨(q1.2.2.1.1 a ha).1.trans (hO'.1 a ha).1, (hO'.1 a ha).2⟩)
    show some (Value.int _) = some (Value.int _)
    rw [← ee]
    rfl
