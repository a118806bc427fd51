/-! part 45: push -/
/-! push -/
def pW (w : Nat → Int32) (s : Nat) (z : Int32) : Nat → Int32 := fun k => if k = 265 then w 265 + nI 1 else if k = 24 + s then nI (cM w s + 1) else if k = 32 + 18 * s + 3 * cM w s + 2 then w 184 else if k = 32 + 18 * s + 3 * cM w s + 1 then z else if k = 32 + 18 * s + 3 * cM w s then w 265 else w k
theorem pW_no {w : Nat → Int32} {s k : Nat} {z : Int32} (h : k ≠ 265 ∧ k ≠ 24 + s ∧ (k < 32 + 18 * s + 3 * cM w s ∨ 32 + 18 * s + 3 * cM w s + 3 ≤ k)) : pW w s z k = w k := by
  unfold pW
  rw [if_neg h.1, if_neg h.2.1, if_neg (by omega), if_neg (by omega), if_neg (by omega)]
theorem pW_24 {w : Nat → Int32} {s s' : Nat} {z : Int32} (hs : s < 8) (hs' : s' < 8) : pW w s z (24 + s') = if s' = s then nI (cM w s + 1) else w (24 + s') := by
  by_cases e : s' = s
  · rw [if_pos e, e]; unfold pW; rw [if_neg (by omega), if_pos rfl]
  · rw [if_neg e]; exact pW_no ⟨by omega, by omega, by omega⟩
theorem pW_c {w : Nat → Int32} {s s' : Nat} {z : Int32} (hs : s < 8) (hs' : s' < 8) (hc : cM w s < 6) : cM (pW w s z) s' = if s' = s then cM w s + 1 else cM w s' := by
  have e : cM (pW w s z) s' = (pW w s z (24 + s')).toNatClampNeg := rfl
  rw [e, pW_24 hs hs']
  by_cases e : s' = s
  · rw [if_pos e, if_pos e, nI_clamp (by omega)]
  · rw [if_neg e, if_neg e]; rfl
theorem pW_cell {w : Nat → Int32} {s s' k : Nat} {z : Int32} (hG : WfC w) (hs : s < 8) (hs' : s' < 8) (hc : cM w s < 6) (hk : k < cM (pW w s z) s') :
    (s' = s ∧ k = cM w s ∧ pW w s z (32 + 18 * s' + 3 * k) = w 265 ∧ pW w s z (32 + 18 * s' + 3 * k + 1) = z ∧ pW w s z (32 + 18 * s' + 3 * k + 2) = w 184) ∨
    (¬ (s' = s ∧ k = cM w s) ∧ k < cM w s' ∧ pW w s z (32 + 18 * s' + 3 * k) = w (32 + 18 * s' + 3 * k) ∧ pW w s z (32 + 18 * s' + 3 * k + 1) = w (32 + 18 * s' + 3 * k + 1) ∧ pW w s z (32 + 18 * s' + 3 * k + 2) = w (32 + 18 * s' + 3 * k + 2)) := by
  rw [pW_c hs hs' hc] at hk
  have hcs' := cM_le hG hs'
  by_cases e : s' = s ∧ k = cM w s
  · left
    refine ⟨e.1, e.2, ?_, ?_, ?_⟩
    · rw [e.1, e.2]; unfold pW; rw [if_neg (by omega), if_neg (by omega), if_neg (by omega), if_neg (by omega), if_pos rfl]
    · rw [e.1, e.2]; unfold pW; rw [if_neg (by omega), if_neg (by omega), if_neg (by omega), if_pos rfl]
    · rw [e.1, e.2]; unfold pW; rw [if_neg (by omega), if_neg (by omega), if_pos rfl]
  · right
    have hk2 : k < cM w s' := by
      by_cases e1 : s' = s
      · rw [if_pos e1] at hk
        have : k ≠ cM w s := fun q => e ⟨e1, q⟩
        rw [e1]; omega
      · rw [if_neg e1] at hk; exact hk
    refine ⟨e, hk2, ?_⟩
    by_cases e1 : s' = s
    · have hk3 : k < cM w s := by rw [← e1]; exact hk2
      subst e1
      exact ⟨pW_no ⟨by omega, by omega, by omega⟩, pW_no ⟨by omega, by omega, by omega⟩, pW_no ⟨by omega, by omega, by omega⟩⟩
    · exact ⟨pW_no ⟨by omega, by omega, by omega⟩, pW_no ⟨by omega, by omega, by omega⟩, pW_no ⟨by omega, by omega, by omega⟩⟩
theorem pW_ep {w : Nat → Int32} {s : Nat} {z : Int32} (hs : s < 8) (hc : cM w s < 6) : epM (pW w s z) = epM w ∧ lgM (pW w s z) = lgM w := by
  refine ⟨?_, ?_⟩
  · unfold epM; rw [pW_no ⟨by omega, by omega, by omega⟩]
  · unfold lgM; rw [pW_no ⟨by omega, by omega, by omega⟩]
theorem Good_push {w : Nat → Int32} {t s zn : Nat} (ht : t < 1000) (hG : Good w t) (hs : s < 8) (ho : w s = nI 1) (hc : cM w s < 6) (hz : 1 ≤ zn ∧ zn ≤ 99) : Good (pW w s (nI zn)) (t + 1) := by
  obtain ⟨hW, hO, ⟨hD, hE⟩, hQ1, ⟨come, hq2, hq3, hq4⟩, hQ3, hQ4⟩ := hG
  obtain ⟨e1, e2⟩ := pW_ep (z := nI zn) hs hc
  have hep := hW.2.2.2.1
  have h184 : w 184 = nI (epM w) := hW.2.2.1
  have em : ∀ s' k, s' < 8 → k < cM (pW w s (nI zn)) s' → eM (pW w s (nI zn)) s' k = if s' = s ∧ k = cM w s then epM w else eM w s' k := fun s' k hs' hk => by
    unfold eM
    rcases pW_cell hW hs hs' hc hk with ⟨a1, a2, a3, a4, a5⟩ | ⟨a1, a2, a3, a4, a5⟩
    · rw [a5, if_pos ⟨a1, a2⟩]; rfl
    · rw [a5, if_neg a1]
  have nm : ∀ s' k, s' < 8 → k < cM (pW w s (nI zn)) s' → numM (pW w s (nI zn)) s' k = if s' = s ∧ k = cM w s then come else numM w s' k := fun s' k hs' hk => by
    unfold numM
    rcases pW_cell hW hs hs' hc hk with ⟨a1, a2, a3, a4, a5⟩ | ⟨a1, a2, a3, a4, a5⟩
    · rw [a3, if_pos ⟨a1, a2⟩, hq2, nI_clamp (by omega)]
    · rw [a3, if_neg a1]
  have or : ∀ r, 176 ≤ r → r + 8 ≤ 265 → OrdOk w r → OrdOk (pW w s (nI zn)) r := fun r h1 h2 h => OrdOk_cong (fun a ha => pW_no ⟨by omega, by omega, by omega⟩) h
  refine ⟨⟨fun s' hs' => ?_, fun s' hs' k hk => ?_, ?_, ?_, ?_, ?_⟩, fun s' hs' => ⟨?_, fun h0 => ?_⟩, ⟨or 176 (by omega) (by omega) hD, fun e he => ?_⟩, fun s' hs' k hk => ?_, ⟨come + 1, ?_, by omega, fun s' hs' k hk => ?_⟩, fun s1 hs1 s2 hs2 k1 hk1 k2 hk2 heq => ?_, fun s' hs' k hk => ?_⟩
  · rw [pW_c hs hs' hc, pW_24 hs hs']
    by_cases q : s' = s
    · rw [if_pos q, if_pos q]; exact ⟨rfl, by omega⟩
    · rw [if_neg q, if_neg q]; exact hW.1 s' hs'
  · rw [em s' k hs' hk, e1]
    rcases pW_cell hW hs hs' hc hk with ⟨a1, a2, a3, a4, a5⟩ | ⟨a1, a2, a3, a4, a5⟩
    · rw [a5, if_pos ⟨a1, a2⟩]; exact ⟨h184, Nat.le_refl _⟩
    · rw [a5, if_neg a1]; exact hW.2.1 s' hs' k a2
  · rw [e1, pW_no ⟨by omega, by omega, by omega⟩]; exact h184
  · rw [e1]; exact hep
  · rw [e2, pW_no ⟨by omega, by omega, by omega⟩]; exact hW.2.2.2.2.1
  · rw [e2]; exact hW.2.2.2.2.2
  · rw [pW_no ⟨by omega, by omega, by omega⟩]; exact (hO s' hs').1
  · rw [pW_no ⟨by omega, by omega, by omega⟩] at h0
    have hne : ¬ s' = s := fun q => by
      subst q
      exact absurd (h0.symm.trans ho) (by decide)
    rw [pW_no ⟨by omega, by omega, by omega⟩, pW_no ⟨by omega, by omega, by omega⟩, pW_c hs hs' hc, if_neg hne]
    exact (hO s' hs').2 h0
  · rw [e1] at he
    exact or _ (by omega) (by omega) (hE e he)
  · rw [em s' k hs' (by omega), em s' (k + 1) hs' hk]
    rw [pW_c hs hs' hc] at hk
    by_cases q : s' = s
    · rw [if_pos q] at hk
      subst q
      by_cases q2 : k + 1 = cM w s'
      · rw [if_neg (fun z => by omega), if_pos ⟨rfl, q2⟩]
        exact (hW.2.1 s' hs k (by omega)).2
      · rw [if_neg (fun z => by omega), if_neg (fun z => q2 z.2)]
        exact hQ1 s' hs k (by omega)
    · rw [if_neg q] at hk
      rw [if_neg (fun z => q z.1), if_neg (fun z => q z.1)]
      exact hQ1 s' hs' k hk
  · have : pW w s (nI zn) 265 = w 265 + nI 1 := if_pos rfl
    rw [this, hq2, nI_add]
  · rw [nm s' k hs' hk]
    rcases pW_cell hW hs hs' hc hk with ⟨a1, a2, a3, a4, a5⟩ | ⟨a1, a2, a3, a4, a5⟩
    · rw [a3, if_pos ⟨a1, a2⟩]; exact ⟨hq2, by omega⟩
    · rw [a3, if_neg a1]
      have := hq4 s' hs' k a2
      exact ⟨this.1, by omega⟩
  · rw [nm s1 k1 hs1 hk1, nm s2 k2 hs2 hk2] at heq
    rcases pW_cell hW hs hs1 hc hk1 with ⟨a1, a2, -⟩ | ⟨a1, a2, -⟩ <;> rcases pW_cell hW hs hs2 hc hk2 with ⟨b1, b2, -⟩ | ⟨b1, b2, -⟩
    · exact ⟨a1.trans b1.symm, a2.trans b2.symm⟩
    · rw [if_pos ⟨a1, a2⟩, if_neg b1] at heq
      have := (hq4 s2 hs2 k2 b2).2
      omega
    · rw [if_neg a1, if_pos ⟨b1, b2⟩] at heq
      have := (hq4 s1 hs1 k1 a2).2
      omega
    · rw [if_neg a1, if_neg b1] at heq
      exact hQ3 s1 hs1 s2 hs2 k1 a2 k2 b2 heq
  · have sz : szR (pW w s (nI zn)) s' k = if s' = s ∧ k = cM w s then zn else szR w s' k := by
      unfold szR
      rcases pW_cell hW hs hs' hc hk with ⟨a1, a2, a3, a4, a5⟩ | ⟨a1, a2, a3, a4, a5⟩
      · rw [a4, if_pos ⟨a1, a2⟩, nI_clamp (by omega)]
      · rw [a4, if_neg a1]
    rw [sz]
    rcases pW_cell hW hs hs' hc hk with ⟨a1, a2, a3, a4, a5⟩ | ⟨a1, a2, a3, a4, a5⟩
    · rw [a4, if_pos ⟨a1, a2⟩]; exact ⟨rfl, hz⟩
    · rw [a4, if_neg a1]; exact hQ4 s' hs' k a2
theorem push_X {R : hm_I} {p t s : Nat} {w : Nat → Int32} {z : Int32} (hG : Good w t) (h : Rel R p w) (hs : s < 8) (ho : w s = nI 1) (hc : cM w s < 6) :
    Rel (fX2_takeFrame_t R p (cM w) (epM w + 1) s z).2 p (pW w s z) ∧ (fX2_takeFrame_t R p (cM w) (epM w + 1) s z).1 = w 265 ∧ ∀ u k, outq u p → (fX2_takeFrame_t R p (cM w) (epM w + 1) s z).2 u k = R u k := by
  obtain ⟨⟨r1, r2⟩, ⟨r3, r4⟩, ⟨r5, r6, r7⟩, ⟨r8, r9⟩, r10, r11⟩ := h
  have hW := hG.1
  have hep := hW.2.2.2.1
  have h184 : w 184 = nI (epM w) := hW.2.2.1
  obtain ⟨e1, e2⟩ := pW_ep (w := w) (z := z) hs hc
  obtain ⟨a1, a2, a3, a4⟩ := add_spec (I := R) (a := p + 4 + 5 * s) (c := cM w s) (v := R p 7) (s0 := nI s) (z0 := z) (e0 := nI (epM w + 1 - 1))
  have hY : (fX2_takeFrame_t R p (cM w) (epM w + 1) s z).2 = hm_put (fX0_add_t R (p + 4 + 5 * s) (cM w s) (R p 7) (nI s) z (nI (epM w + 1 - 1))) p 7 ((fX0_add_t R (p + 4 + 5 * s) (cM w s) (R p 7) (nI s) z (nI (epM w + 1 - 1))) p 7 + nI 1) := rfl
  rw [hY]
  generalize fX0_add_t R (p + 4 + 5 * s) (cM w s) (R p 7) (nI s) z (nI (epM w + 1 - 1)) = Y at a1 a2 a3 a4 ⊢
  have fr : ∀ u k, u ≠ p → (u < p + 4 + 5 * s ∨ p + 4 + 5 * s + 5 ≤ u) → hm_put Y p 7 (Y p 7 + nI 1) u k = R u k := fun u k h1 h2 => by rw [hp_n (Or.inl h1), a1 u k h2]
  have fp : ∀ k, k ≠ 7 → hm_put Y p 7 (Y p 7 + nI 1) p k = R p k := fun k hk => by rw [hp_n (Or.inr hk), a1 _ _ (by omega)]
  refine ⟨⟨⟨?_, fun s' hs' ho' => ?_⟩, ⟨fun s' hs' => ?_, fun s' hs' k hk => ?_⟩, ⟨?_, fun e he => ?_, ?_⟩, ⟨?_, fun k hk => ?_⟩, ?_, ?_⟩, r10, fun u k hu => ?_⟩
  · rw [fp 0 (by omega), osM_cong (fun i hi => pW_no ⟨by omega, by omega, by omega⟩)]; exact r1
  · rw [pW_no ⟨by omega, by omega, by omega⟩] at ho'
    rw [fr _ _ (by omega) (by omega), fr _ _ (by omega) (by omega), pW_no ⟨by omega, by omega, by omega⟩, pW_no ⟨by omega, by omega, by omega⟩]
    exact r2 s' hs' ho'
  · rw [pW_24 hs hs']
    by_cases q : s' = s
    · subst q
      rw [if_pos rfl, hp_n (Or.inl (by omega)), a2]
    · rw [if_neg q, fr _ _ (by omega) (by omega)]; exact r3 s' hs'
  · rcases pW_cell hW hs hs' hc hk with ⟨c1, c2, c3, c4, c5⟩ | ⟨c1, c2, c3, c4, c5⟩
    · rw [c3, c4, c5, c2]
      subst c1
      rw [hp_n (Or.inl (by omega)), hp_n (Or.inl (by omega)), hp_n (Or.inl (by omega)), a4.1, a4.2.2.1, a4.2.2.2, h184, Nat.add_sub_cancel]
      exact ⟨r10, rfl, rfl⟩
    · rw [c3, c4, c5]
      by_cases q : s' = s
      · subst q
        have hkn : k ≠ cM w s' := fun z => c1 ⟨rfl, z⟩
        obtain ⟨d1, d2, d3, d4⟩ := a3 k hkn
        rw [hp_n (Or.inl (by omega)), hp_n (Or.inl (by omega)), hp_n (Or.inl (by omega)), d1, d3, d4]
        exact r4 s' hs' k c2
      · rw [fr _ _ (by omega) (by omega), fr _ _ (by omega) (by omega), fr _ _ (by omega) (by omega)]
        exact r4 s' hs' k c2
  · exact RelO_cong (fun a ha => pW_no ⟨by omega, by omega, by omega⟩) (RelO_frame (fun a k h1 h2 => fr a k (by omega) (by omega)) r5)
  · rw [e1] at he
    exact RelO_cong (fun a ha => pW_no ⟨by omega, by omega, by omega⟩) (RelO_frame (fun a k h1 h2 => fr a k (by omega) (by omega)) (r6 e he))
  · rw [fp 6 (by omega), e1]; exact r7
  · rw [fr _ _ (by omega) (by omega), pW_no ⟨by omega, by omega, by omega⟩]; exact r8
  · rw [e2] at hk
    have hl : lgM w ≤ 40 := hW.2.2.2.2.2
    rw [fr _ _ (by omega) (by omega), fr _ _ (by omega) (by omega), fr _ _ (by omega) (by omega), fr _ _ (by omega) (by omega), pW_no ⟨by omega, by omega, by omega⟩, pW_no ⟨by omega, by omega, by omega⟩, pW_no ⟨by omega, by omega, by omega⟩, pW_no ⟨by omega, by omega, by omega⟩]
    exact r9 k hk
  · rw [hm_put_at, a1 _ _ (by omega), r10]
    exact (if_pos rfl).symm
  · rw [fp 8 (by omega), pW_no ⟨by omega, by omega, by omega⟩]; exact r11
  · unfold outq at hu
    exact fr u k (by omega) (by omega)
def cPush (w : Nat → Int32) (a0 c0 : Int32) : Int32 × Option (Nat → Int32) :=
  if (fX4_isStream a0 && fX4_isIn c0 (nI 1) (nI 99)) = true then (if w a0.toNatClampNeg = nI 1 then (if cM w a0.toNatClampNeg = 6 then (-3, none) else (w 265, some (pW w a0.toNatClampNeg c0))) else (-2, none)) else (-1, none)
theorem op_push (a0 c0 : Int32) {n t : Nat} {w : Nat → Int32} {P Q : Nat → Nat → Int32} {kp : Nat → Bool} (ht : t < 1000) : OpX yX3_push wsX3_push [.int a0, .int c0] t (t + 1) (n, w, P, Q, kp) (.int (cPush w a0 c0).1) (nxS (n, w, P, Q, kp) (cPush w a0 c0).2) := by
  intro l D T L A x Sh I J hI
  have gs := InvX_up hI
  obtain ⟨p, f, h, m, k, j, hs, im, g⟩ := hI
  change GIx L Sh I x p f h m k j hs im n w P Q kp t at g
  have hWs := c_wfsx g
  have hRel := c_relx g
  have g0 := g
  obtain ⟨gX, gA, gG, gx, gF⟩ := g
  unfold cPush
  by_cases hb : (fX4_isStream a0 && fX4_isIn c0 (nI 1) (nI 99)) = true
  · rw [if_pos hb]
    rw [Bool.and_eq_true] at hb
    obtain ⟨hb1, hb2⟩ := hb
    obtain ⟨s, hs8, e⟩ := st_true hb1
    obtain ⟨zn, hz1, hz2, ez⟩ := (within_iff (by decide) (by decide)).mp hb2
    subst e
    rw [nI_clamp (show s < 2 ^ 31 by omega)]
    have hox := opn_X gx.2.1.1 hs8
    have hc6 := cM_le gG.2.1.1 hs8
    by_cases ho : w s = nI 1
    · rw [decide_eq_true ho] at hox
      rw [if_pos ho]
      by_cases hc : cM w s = 6
      · rw [if_pos hc]
        exact ⟨Sh, I, J, CtR.mk (ctX3_push_f gX gA hWs gx.1 gG.1 hs8 hb2 hox hc) (by decide) (by decide) rfl, gs⟩
      · rw [if_neg hc]
        have hc' : cM w s < 6 := by omega
        obtain ⟨p1, p2, p3⟩ := push_X (z := c0) gG.2.1 hRel hs8 ho hc'
        have h1 : ∀ z kk, outq z p → (fX3_push_t I x p n hs (cM w) (epM w + 1) (lgM w) s c0).2 z kk = recR I x p n hs w z kk := p3
        refine ⟨recSh Sh h hs n, _, J, CtR.mk (ctX3_push_t gX gA hWs gx.1 gG.1 hs8 hb2 hox hc') (by decide) (by decide) ?_, p, f, h, m, k, j, recH hs n, im, close_cx g0 (Agr_rf w) h1 p1 (by rw [ez]; exact Good_push ht gG.2.1 hs8 ho hc' ⟨hz1, hz2⟩)⟩
        have e1 : (fX3_push_t I x p n hs (cM w) (epM w + 1) (lgM w) s c0).1 = w 265 := p2
        rw [e1]
    · rw [decide_eq_false ho] at hox
      rw [if_neg ho]
      exact ⟨Sh, I, J, CtR.mk (ctX3_push_s gX gA hWs gx.1 gG.1 hs8 hb2 hox) (by decide) (by decide) rfl, gs⟩
  · rw [if_neg hb]
    have hb' : (fX3_isStream a0 && fX3_isWithin c0 (nI 1) (nI 99)) = false := by rw [st_eq, within_eq]; exact nf hb
    exact ⟨Sh, I, J, CtR.mk (ctX3_push_b gX hb') (by decide) (by decide) rfl, gs⟩
