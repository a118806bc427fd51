/-! part 44: open, close, setWeight: what the class answers, and what its row is then -/
def cOpen (w : Nat → Int32) (a0 c0 : Int32) : Int32 × Option (Nat → Int32) :=
  if (fX4_isStream a0 && fX4_isIn c0 (nI 1) (nI 9)) = true then (if w a0.toNatClampNeg = nI 1 then (-2, none) else (fJ6_bitCount_0f7a4 (nI (osM (opW w a0.toNatClampNeg (nI 1) c0 (nI 0)))), some (opW w a0.toNatClampNeg (nI 1) c0 (nI 0)))) else (-1, none)
theorem opO_ok {w : Nat → Int32} {s : Nat} {c0 : Int32} (hs8 : s < 8) (h : OpnOk w) : OpnOk (opW w s (nI 1) c0 (nI 0)) := by
  intro i hi
  rw [opW_0 hi, opW_8 hs8 hi, opW_16 hs8 hi, (WfC_24 (opW_24 hs8)).1]
  by_cases ei : i = s
  · simp only [if_pos ei]; exact ⟨Or.inr trivial, fun q => absurd q (by decide)⟩
  · simp only [if_neg ei]; exact h i hi
theorem op_open (a0 c0 : Int32) {n t : Nat} {w : Nat → Int32} {P Q : Nat → Nat → Int32} {kp : Nat → Bool} : OpX yX3_open wsX3_open [.int a0, .int c0] t (t + 1) (n, w, P, Q, kp) (.int (cOpen w a0 c0).1) (nxS (n, w, P, Q, kp) (cOpen w a0 c0).2) := by
  intro l D T L A x Sh I J hI
  have gs := InvX_up hI
  obtain ⟨p, f, h, m, k, j, hs, im, g⟩ := hI
  change GIx L Sh I x p f h m k j hs im n w P Q kp t at g
  have hWs := c_wfsx g
  have hRel := c_relx g
  have g0 := g
  obtain ⟨gX, gA, gG, gx, gF⟩ := g
  unfold cOpen
  by_cases hb : (fX4_isStream a0 && fX4_isIn c0 (nI 1) (nI 9)) = true
  · rw [if_pos hb]
    rw [Bool.and_eq_true] at hb
    obtain ⟨hb1, hb2⟩ := hb
    obtain ⟨s, hs8, e⟩ := st_true hb1
    subst e
    rw [nI_clamp (show s < 2 ^ 31 by omega)]
    have hox := opn_X gx.2.1.1 hs8
    by_cases ho : w s = nI 1
    · rw [decide_eq_true ho] at hox
      rw [if_pos ho]
      exact ⟨Sh, I, J, CtR.mk (ctX3_open_s gX gA hWs gx.1 gG.1 hs8 hb2 hox) (by decide) (by decide) rfl, gs⟩
    · rw [decide_eq_false ho] at hox
      rw [if_neg ho]
      have h1 : ∀ z kk, outq z p → (fX3_open_t I x p n hs (cM w) (epM w + 1) (lgM w) s c0).2 z kk = recR I x p n hs w z kk := fun z kk hz => by
        unfold outq at hz
        show fX2_openStream_t (recR I x p n hs w) p s c0 z kk = _
        unfold fX2_openStream_t
        rw [hp_n (Or.inl (by omega)), hp_n (Or.inl (by omega)), hp_n (Or.inl (by omega))]
      have hO' := opO_ok (c0 := c0) hs8 gG.2.1.2.1
      have hos : osM (opW w s (nI 1) c0 (nI 0)) = osM w ||| 2 ^ s := m_ext (osM_spec _).1 (m_or (osM_spec _).1 (pow_256 s hs8)) (fun i hi => by
        rw [(osM_spec _).2 i hi, opW_0 hi, Nat.testBit_or, (osM_spec _).2 i hi, tb_pow s hs8 i hi]
        by_cases ei : i = s
        · simp [ei]
        · have : ¬ s = i := fun q => ei q.symm
          simp [ei, this])
      obtain ⟨r1, r2, r3, r4, r5, r6⟩ := hRel
      have fr : ∀ z kk, p + 3 ≤ z → fX2_openStream_t (recR I x p n hs w) p s c0 z kk = recR I x p n hs w z kk := fun z kk hz => by
        unfold fX2_openStream_t
        rw [hp_n (Or.inl (by omega)), hp_n (Or.inl (by omega)), hp_n (Or.inl (by omega))]
      have fp : ∀ kk, kk ≠ 0 → fX2_openStream_t (recR I x p n hs w) p s c0 p kk = recR I x p n hs w p kk := fun kk hk => by
        unfold fX2_openStream_t
        rw [hp_n (Or.inl (by omega)), hp_n (Or.inl (by omega)), hp_n (Or.inr hk)]
      have p0 : fX2_openStream_t (recR I x p n hs w) p s c0 p 0 = nI (osM (opW w s (nI 1) c0 (nI 0))) := by
        unfold fX2_openStream_t
        rw [hp_n (Or.inl (by omega)), hp_n (Or.inl (by omega)), hm_put_at, r1.1, fb_setOf s hs8, fa_or, hos]
      have hr : Rel (fX2_openStream_t (recR I x p n hs w) p s c0) p (opW w s (nI 1) c0 (nI 0)) := by
        refine Rel_24 (opW_24 hs8) ⟨p0, fun i hi hoi => ⟨?_, ?_⟩⟩ (RelQ_frame (fun a kk h1 _ => fr a kk (by omega)) r2) (RelE_frame (good_ep gG.2.1) (fp 6 (by omega)) (fun a kk h1 _ => fr a kk (by omega)) r3) (RelL_frame (fun a kk h1 _ => fr a kk (by omega)) r4) ((fp 7 (by omega)).trans r5) ((fp 8 (by omega)).trans r6)
        · rw [opW_8 hs8 hi]
          unfold fX2_openStream_t
          by_cases ei : i = s
          · rw [if_pos ei, ei, hp_n (Or.inl (by omega)), hm_put_at]
          · rw [opW_0 hi, if_neg ei] at hoi
            rw [if_neg ei, hp_n (Or.inl (by omega)), hp_n (Or.inr ei), hp_n (Or.inl (by omega))]
            exact (r1.2 i hi hoi).1
        · rw [opW_16 hs8 hi]
          unfold fX2_openStream_t
          by_cases ei : i = s
          · rw [if_pos ei, ei, hm_put_at]
          · rw [opW_0 hi, if_neg ei] at hoi
            rw [if_neg ei, hp_n (Or.inr ei), hp_n (Or.inl (by omega)), hp_n (Or.inl (by omega))]
            exact (r1.2 i hi hoi).2
      refine ⟨recSh Sh h hs n, _, J, CtR.mk (ctX3_open_t gX gA hWs gx.1 gG.1 hs8 hb2 hox) (by decide) (by decide) ?_, p, f, h, m, k, j, recH hs n, im, close_cx g0 (Agr_rf w) h1 hr (Good_mono (Good_24 (opW_24 hs8) hO' gG.2.1) (Nat.le_succ t))⟩
      have e1 : (fX3_open_t I x p n hs (cM w) (epM w + 1) (lgM w) s c0).1 = fJ6_bitCount_0f7a4 (fX2_openStream_t (recR I x p n hs w) p s c0 p 0) := rfl
      rw [e1, p0]
  · rw [if_neg hb]
    have hb' : (fX3_isStream a0 && fX3_isWithin c0 (nI 1) (nI 9)) = false := by rw [st_eq, within_eq]; exact nf hb
    exact ⟨Sh, I, J, CtR.mk (ctX3_open_b gX hb') (by decide) (by decide) rfl, gs⟩
def cClose (w : Nat → Int32) (a0 : Int32) : Int32 × Option (Nat → Int32) :=
  if fX4_isStream a0 = true then (if w a0.toNatClampNeg = nI 1 ∧ cM w a0.toNatClampNeg = 0 then (w (16 + a0.toNatClampNeg), some (opW w a0.toNatClampNeg (nI 0) (nI 0) (nI 0))) else (-2, none)) else (-1, none)
theorem opC_ok {w : Nat → Int32} {s : Nat} (hs8 : s < 8) (hc : cM w s = 0) (h : OpnOk w) : OpnOk (opW w s (nI 0) (nI 0) (nI 0)) := by
  intro i hi
  rw [opW_0 hi, opW_8 hs8 hi, opW_16 hs8 hi, (WfC_24 (opW_24 hs8)).1]
  by_cases ei : i = s
  · rw [if_pos ei, if_pos ei, if_pos ei]; exact ⟨Or.inl rfl, fun _ => ⟨rfl, rfl, by rw [ei]; exact hc⟩⟩
  · rw [if_neg ei, if_neg ei, if_neg ei]; exact h i hi
theorem op_close (a0 : Int32) {n t : Nat} {w : Nat → Int32} {P Q : Nat → Nat → Int32} {kp : Nat → Bool} : OpX yX3_close wsX3_close [.int a0] t (t + 1) (n, w, P, Q, kp) (.int (cClose w a0).1) (nxS (n, w, P, Q, kp) (cClose w a0).2) := by
  intro l D T L A x Sh I J hI
  have gs := InvX_up hI
  obtain ⟨p, f, h, m, k, j, hs, im, g⟩ := hI
  change GIx L Sh I x p f h m k j hs im n w P Q kp t at g
  have hWs := c_wfsx g
  have hRel := c_relx g
  have g0 := g
  obtain ⟨gX, gA, gG, gx, gF⟩ := g
  unfold cClose
  by_cases hb : fX4_isStream a0 = true
  · rw [if_pos hb]
    obtain ⟨s, hs8, e⟩ := st_true hb
    subst e
    rw [nI_clamp (show s < 2 ^ 31 by omega)]
    have hox := opn_X gx.2.1.1 hs8
    by_cases hst : w s = nI 1 ∧ cM w s = 0
    · rw [if_pos hst]
      obtain ⟨ho, hc⟩ := hst
      rw [decide_eq_true ho] at hox
      have h1 : ∀ z kk, outq z p → (fX3_close_t I x p n hs (cM w) (epM w + 1) (lgM w) s).2 z kk = recR I x p n hs w z kk := fun z kk hz => by
        unfold outq at hz
        exact hp_n (Or.inl (by omega))
      have hO' := opC_ok hs8 hc gG.2.1.2.1
      have hos : osM (opW w s (nI 0) (nI 0) (nI 0)) = osM w &&& (255 ^^^ 2 ^ s) := m_ext (osM_spec _).1 (m_and (osM_spec _).1) (fun i hi => by
        rw [(osM_spec _).2 i hi, opW_0 hi, Nat.testBit_and, tb_not hi, (osM_spec _).2 i hi, tb_pow s hs8 i hi]
        by_cases ei : i = s
        · rw [if_pos ei, decide_eq_false (show ¬ nI 0 = nI 1 by decide), decide_eq_true ei.symm]; simp
        · rw [if_neg ei, decide_eq_false (show ¬ s = i from fun q => ei q.symm)]; simp)
      obtain ⟨r1, r2, r3, r4, r5, r6⟩ := hRel
      have fr : ∀ z kk, z ≠ p → fX2_closeStream (recR I x p n hs w) p (nI s) z kk = recR I x p n hs w z kk := fun z kk hz => hp_n (Or.inl hz)
      have fp : ∀ kk, kk ≠ 0 → fX2_closeStream (recR I x p n hs w) p (nI s) p kk = recR I x p n hs w p kk := fun kk hk => hp_n (Or.inr hk)
      have p0 : fX2_closeStream (recR I x p n hs w) p (nI s) p 0 = nI (osM (opW w s (nI 0) (nI 0) (nI 0))) := by
        unfold fX2_closeStream
        rw [hm_put_at, r1.1, fb_setOf s hs8, fb_not (b := 2 ^ s) (osM_spec w).1, hos]
      have hr : Rel (fX2_closeStream (recR I x p n hs w) p (nI s)) p (opW w s (nI 0) (nI 0) (nI 0)) := by
        refine Rel_24 (opW_24 hs8) ⟨p0, fun i hi hoi => ?_⟩ (RelQ_frame (fun a kk h1 _ => fr a kk (by omega)) r2) (RelE_frame (good_ep gG.2.1) (fp 6 (by omega)) (fun a kk h1 _ => fr a kk (by omega)) r3) (RelL_frame (fun a kk h1 _ => fr a kk (by omega)) r4) ((fp 7 (by omega)).trans r5) ((fp 8 (by omega)).trans r6)
        rw [opW_0 hi] at hoi
        rw [opW_8 hs8 hi, opW_16 hs8 hi]
        by_cases ei : i = s
        · rw [if_pos ei] at hoi; exact absurd hoi (by decide)
        · rw [if_neg ei] at hoi
          rw [if_neg ei, if_neg ei, fr _ _ (by omega), fr _ _ (by omega)]
          exact r1.2 i hi hoi
      refine ⟨recSh Sh h hs n, _, J, CtR.mk (ctX3_close_t gX gA hWs gx.1 gG.1 hs8 hox hc) (by decide) (by decide) ?_, p, f, h, m, k, j, recH hs n, im, close_cx g0 (Agr_rf w) h1 hr (Good_mono (Good_24 (opW_24 hs8) hO' gG.2.1) (Nat.le_succ t))⟩
      have e1 : (fX3_close_t I x p n hs (cM w) (epM w + 1) (lgM w) s).1 = fX2_closeStream (recR I x p n hs w) p (nI s) (p + 2) s := rfl
      rw [e1, fr _ _ (by omega), (r1.2 s hs8 ho).2]
    · rw [if_neg hst]
      refine ⟨Sh, I, J, CtR.mk (ctX3_close_s gX gA hWs gx.1 gG.1 hs8 (fun q => ?_)) (by decide) (by decide) rfl, gs⟩
      rw [hox, decide_eq_true_iff] at q
      have : cM w s ≠ 0 := fun z => hst ⟨q, z⟩
      omega
  · rw [if_neg hb]
    have hb' : fX3_isStream a0 = false := by rw [st_eq]; exact nf hb
    exact ⟨Sh, I, J, CtR.mk (ctX3_close_b gX hb') (by decide) (by decide) rfl, gs⟩
def cSetW (w : Nat → Int32) (a0 c0 : Int32) : Int32 × Option (Nat → Int32) :=
  if (fX4_isStream a0 && fX4_isIn c0 (nI 1) (nI 9)) = true then (if w a0.toNatClampNeg = nI 1 then (w (8 + a0.toNatClampNeg), some (opW w a0.toNatClampNeg (w a0.toNatClampNeg) c0 (w (16 + a0.toNatClampNeg)))) else (-2, none)) else (-1, none)
theorem opS_ok {w : Nat → Int32} {s : Nat} {c0 : Int32} (hs8 : s < 8) (ho : w s = nI 1) (h : OpnOk w) : OpnOk (opW w s (w s) c0 (w (16 + s))) := by
  intro i hi
  rw [opW_0 hi, opW_8 hs8 hi, opW_16 hs8 hi, (WfC_24 (opW_24 hs8)).1]
  by_cases ei : i = s
  · rw [if_pos ei, if_pos ei, if_pos ei]; exact ⟨Or.inr ho, fun q => absurd (ho.symm.trans q) (by decide)⟩
  · rw [if_neg ei, if_neg ei, if_neg ei]; exact h i hi
theorem op_setWeight (a0 c0 : Int32) {n t : Nat} {w : Nat → Int32} {P Q : Nat → Nat → Int32} {kp : Nat → Bool} : OpX yX3_setWeight wsX3_setWeight [.int a0, .int c0] t (t + 1) (n, w, P, Q, kp) (.int (cSetW w a0 c0).1) (nxS (n, w, P, Q, kp) (cSetW w a0 c0).2) := by
  intro l D T L A x Sh I J hI
  have gs := InvX_up hI
  obtain ⟨p, f, h, m, k, j, hs, im, g⟩ := hI
  change GIx L Sh I x p f h m k j hs im n w P Q kp t at g
  have hWs := c_wfsx g
  have hRel := c_relx g
  have g0 := g
  obtain ⟨gX, gA, gG, gx, gF⟩ := g
  unfold cSetW
  by_cases hb : (fX4_isStream a0 && fX4_isIn c0 (nI 1) (nI 9)) = true
  · rw [if_pos hb]
    rw [Bool.and_eq_true] at hb
    obtain ⟨hb1, hb2⟩ := hb
    obtain ⟨s, hs8, e⟩ := st_true hb1
    subst e
    rw [nI_clamp (show s < 2 ^ 31 by omega)]
    have hox := opn_X gx.2.1.1 hs8
    by_cases ho : w s = nI 1
    · rw [decide_eq_true ho] at hox
      rw [if_pos ho]
      have h1 : ∀ z kk, outq z p → (fX3_setWeight_t I x p n hs (cM w) (epM w + 1) (lgM w) s c0).2 z kk = recR I x p n hs w z kk := fun z kk hz => by
        unfold outq at hz
        exact hp_n (Or.inl (by omega))
      have hO' := opS_ok (c0 := c0) hs8 ho gG.2.1.2.1
      have hos : osM (opW w s (w s) c0 (w (16 + s))) = osM w := osM_cong (fun i hi => by
        rw [opW_0 hi]
        by_cases ei : i = s
        · rw [if_pos ei, ei]
        · rw [if_neg ei])
      obtain ⟨r1, r2, r3, r4, r5, r6⟩ := hRel
      have fr : ∀ z kk, z ≠ p + 1 → hm_put (recR I x p n hs w) (p + 1) s c0 z kk = recR I x p n hs w z kk := fun z kk hz => hp_n (Or.inl hz)
      have hr : Rel (hm_put (recR I x p n hs w) (p + 1) s c0) p (opW w s (w s) c0 (w (16 + s))) := by
        refine Rel_24 (opW_24 hs8) ⟨by rw [fr _ _ (by omega), hos]; exact r1.1, fun i hi hoi => ?_⟩ (RelQ_frame (fun a kk h1 _ => fr a kk (by omega)) r2) (RelE_frame (good_ep gG.2.1) (fr _ _ (by omega)) (fun a kk h1 _ => fr a kk (by omega)) r3) (RelL_frame (fun a kk h1 _ => fr a kk (by omega)) r4) ((fr _ _ (by omega)).trans r5) ((fr _ _ (by omega)).trans r6)
        rw [opW_0 hi] at hoi
        rw [opW_8 hs8 hi, opW_16 hs8 hi, fr (p + 2) _ (by omega)]
        by_cases ei : i = s
        · rw [if_pos ei, if_pos ei, ei, hm_put_at]
          exact ⟨rfl, (r1.2 s hs8 ho).2⟩
        · rw [if_neg ei] at hoi
          rw [if_neg ei, if_neg ei, hp_n (Or.inr ei)]
          exact r1.2 i hi hoi
      refine ⟨recSh Sh h hs n, _, J, CtR.mk (ctX3_setWeight_t gX gA hWs gx.1 gG.1 hs8 hb2 hox) (by decide) (by decide) ?_, p, f, h, m, k, j, recH hs n, im, close_cx g0 (Agr_rf w) h1 hr (Good_mono (Good_24 (opW_24 hs8) hO' gG.2.1) (Nat.le_succ t))⟩
      have e1 : (fX3_setWeight_t I x p n hs (cM w) (epM w + 1) (lgM w) s c0).1 = recR I x p n hs w (p + 1) s := rfl
      rw [e1, (r1.2 s hs8 ho).1]
    · rw [decide_eq_false ho] at hox
      rw [if_neg ho]
      exact ⟨Sh, I, J, CtR.mk (ctX3_setWeight_s gX gA hWs gx.1 gG.1 hs8 hb2 hox) (by decide) (by decide) rfl, gs⟩
  · rw [if_neg hb]
    have hb' : (fX3_isStream a0 && fX3_isWithin c0 (nI 1) (nI 9)) = false := by rw [st_eq, within_eq]; exact nf hb
    exact ⟨Sh, I, J, CtR.mk (ctX3_setWeight_b gX hb') (by decide) (by decide) rfl, gs⟩
