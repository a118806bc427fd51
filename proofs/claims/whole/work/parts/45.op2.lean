/-! part 45: close, setWeight, push -/
theorem m_wf {I : hm_I} {b t : Nat} {w : Nat → Int32} (hG : Good w t) (hR : RowIs I b w) : WfM (I (b + 1)) (cM w) (eM w) (epM w) (lgM w) := wf_row hR hG.1
theorem op_close (a0 : Int32) : Op yX3_close wsX3_close yX4_close wsX4_close [.int a0] isI := by
  intro l D T L A x b t Sh I J ht hI
  obtain ⟨p, f, h, m, k, j, hs, im, n, w, P, Q, kp, g⟩ := hI
  have gs := Inv_s g
  have hWs := c_wfs g
  have hRel := c_rel g
  have g0 := g
  obtain ⟨gX, gA, gM, gB, gG, gx, gm, gF⟩ := g
  by_cases hb : fX4_isStream a0 = true
  · obtain ⟨s, hs8, e⟩ := st_true hb
    subst e
    have hox := opn_X gx.2.1.1 hs8
    by_cases hst : w s = nI 1 ∧ cM w s = 0
    · obtain ⟨ho, hc⟩ := hst
      rw [decide_eq_true ho] at hox
      have h1 : ∀ z kk, outq z p → (fX3_close_t I x p n hs (cM w) (epM w + 1) (lgM w) s).2 z kk = recR I x p n hs w z kk := fun z kk hz => by
        unfold outq at hz
        exact hp_n (Or.inl (by omega))
      obtain ⟨q1, q2, -⟩ := c_pre g0 h1
      have hm4 := ctX4_close_t (l := l) (D := D) (T := T) (A := A) (J := J) (IsM_rec (n := n) gM gB) (m_wf gG.2.1 q2) q1 gG.1 hs8
      have e4 : fX4_close_t (fX3_close_t I x p n hs (cM w) (epM w + 1) (lgM w) s).2 b n (cM w) s = ((fX4_remember (fX3_close_t I x p n hs (cM w) (epM w + 1) (lgM w) s).2 b n) (b + 1) (16 + s), hm_put (hm_put (hm_put (fX4_remember (fX3_close_t I x p n hs (cM w) (epM w + 1) (lgM w) s).2 b n) (b + 1) (0 + s) (nI 0)) (b + 1) (8 + s) (nI 0)) (b + 1) (16 + s) (nI 0)) := by
        unfold fX4_close_t
        rw [opn_M q2 hs8, decide_eq_true ho, if_pos rfl, if_pos hc]
      rw [e4] at hm4
      have hrow := opW_put (s := s) (a := nI 0) (c := nI 0) (d := nI 0) (m_rem gG.1 q2)
      have hO' : OpnOk (opW w s (nI 0) (nI 0) (nI 0)) := by
        intro i hi
        rw [opW_0 hi, opW_8 hs8 hi, opW_16 hs8 hi, (WfC_24 (opW_24 hs8)).1]
        by_cases ei : i = s
        · rw [if_pos ei, if_pos ei, if_pos ei]; exact ⟨Or.inl rfl, fun _ => ⟨rfl, rfl, by rw [ei]; exact hc⟩⟩
        · rw [if_neg ei, if_neg ei, if_neg ei]; exact gG.2.1.2.1 i hi
      have hos : osM (opW w s (nI 0) (nI 0) (nI 0)) = osM w &&& (255 ^^^ 2 ^ s) := m_ext (osM_spec _).1 (m_and (osM_spec _).1) (fun i hi => by
        rw [(osM_spec _).2 i hi, opW_0 hi, Nat.testBit_and, tb_not hi, (osM_spec _).2 i hi, tb_pow s hs8 i hi]
        by_cases ei : i = s
        · rw [if_pos ei, decide_eq_false (show ¬ nI 0 = nI 1 by decide), decide_eq_true ei.symm]; simp
        · rw [if_neg ei, decide_eq_false (show ¬ s = i from fun q => ei q.symm)]; simp)
      obtain ⟨r1, r2, r3, r4, r5, r6⟩ := hRel
      have fr : ∀ z kk, z ≠ p → fX2_closeStream (recR I x p n hs w) p (nI s) z kk = recR I x p n hs w z kk := fun z kk hz => hp_n (Or.inl hz)
      have fp : ∀ kk, kk ≠ 0 → fX2_closeStream (recR I x p n hs w) p (nI s) p kk = recR I x p n hs w p kk := fun kk hk => hp_n (Or.inr hk)
      have p0 : fX2_closeStream (recR I x p n hs w) p (nI s) p 0 = nI (osM (opW w s (nI 0) (nI 0) (nI 0))) := by
        unfold fX2_closeStream
        rw [hm_put_at, r1.1, fb_setOf s hs8, fb_not (b := 2 ^ s) (osM_spec w).1, hos]
      have hr : Rel (fX2_closeStream (recR I x p n hs w) p (nI s)) p (opW w s (nI 0) (nI 0) (nI 0)) := by
        refine Rel_24 (opW_24 hs8) ⟨p0, fun i hi hoi => ?_⟩ (RelQ_frame (fun a kk h1 _ => fr a kk (by omega)) r2) (RelE_frame (good_ep gG.2.1) (fp 6 (by omega)) (fun a kk h1 _ => fr a kk (by omega)) r3) (RelL_frame (fun a kk h1 _ => fr a kk (by omega)) r4) ((fp 7 (by omega)).trans r5) ((fp 8 (by omega)).trans r6)
        rw [opW_0 hi] at hoi
        rw [opW_8 hs8 hi, opW_16 hs8 hi]
        by_cases ei : i = s
        · rw [if_pos ei] at hoi; exact absurd hoi (by decide)
        · rw [if_neg ei] at hoi
          rw [if_neg ei, if_neg ei, fr _ _ (by omega), fr _ _ (by omega)]
          exact r1.2 i hi hoi
      refine ⟨.int (fX3_close_t I x p n hs (cM w) (epM w + 1) (lgM w) s).1, recSh Sh h hs n, _, J, _, J, ⟨_, rfl⟩, CtR.mk (ctX3_close_t gX gA hWs gx.1 gG.1 hs8 hox hc) (by decide) (by decide) rfl, CtR.mk hm4 (by decide) (by decide) ?_, ?_⟩
      · have e1 : (fX3_close_t I x p n hs (cM w) (epM w + 1) (lgM w) s).1 = fX2_closeStream (recR I x p n hs w) p (nI s) (p + 2) s := rfl
        show some (Value.int _) = some (Value.int _)
        rw [e1, fr _ _ (by omega), (r1.2 s hs8 ho).2, m_rem gG.1 q2 (16 + s) (by omega)]
      · exact close_c g0 (Agr_rf w) h1 hr (Good_mono (Good_24 (opW_24 hs8) hO' gG.2.1) (Nat.le_succ t)) (fun _ _ _ => rfl) (fun z kk z1 z2 => by
          show hm_put _ _ _ _ z kk = _
          rw [hp_n (Or.inl z1), hp_n (Or.inl z1), hp_n (Or.inl z1)]) hrow
    · have hm4 := ctX4_close_t (l := l) (D := D) (T := T) (A := A) (J := J) gM (m_wf gG.2.1 gm.2.1) gm.1 gG.1 hs8
      have e4 : fX4_close_t I b n (cM w) s = ((-2), I) := by
        unfold fX4_close_t
        rw [opn_M gm.2.1 hs8]
        by_cases ho : w s = nI 1
        · rw [decide_eq_true ho, if_pos rfl, if_neg (fun q => hst ⟨ho, q⟩)]
        · rw [decide_eq_false ho, if_neg (by decide)]
      rw [e4] at hm4
      refine ⟨.int (-2), Sh, I, J, I, J, ⟨_, rfl⟩, CtR.mk (ctX3_close_s gX gA hWs gx.1 gG.1 hs8 (fun q => ?_)) (by decide) (by decide) rfl, CtR.mk hm4 (by decide) (by decide) rfl, gs⟩
      rw [hox, decide_eq_true_iff] at q
      have : cM w s ≠ 0 := fun z => hst ⟨q, z⟩
      omega
  · have hb' : fX3_isStream a0 = false := by rw [st_eq]; exact nf hb
    exact ⟨.int (-1), Sh, I, J, I, J, ⟨_, rfl⟩, CtR.mk (ctX3_close_b gX hb') (by decide) (by decide) rfl, CtR.mk (ctX4_close_b gM (nf hb)) (by decide) (by decide) rfl, gs⟩
theorem op_setWeight (a0 c0 : Int32) : Op yX3_setWeight wsX3_setWeight yX4_setWeight wsX4_setWeight [.int a0, .int c0] isI := by
  intro l D T L A x b t Sh I J ht hI
  obtain ⟨p, f, h, m, k, j, hs, im, n, w, P, Q, kp, g⟩ := hI
  have gs := Inv_s g
  have hWs := c_wfs g
  have hRel := c_rel g
  have g0 := g
  obtain ⟨gX, gA, gM, gB, gG, gx, gm, gF⟩ := g
  by_cases hb : (fX4_isStream a0 && fX4_isIn c0 (nI 1) (nI 9)) = true
  · rw [Bool.and_eq_true] at hb
    obtain ⟨hb1, hb2⟩ := hb
    obtain ⟨s, hs8, e⟩ := st_true hb1
    subst e
    have hox := opn_X gx.2.1.1 hs8
    by_cases ho : w s = nI 1
    · rw [decide_eq_true ho] at hox
      have h1 : ∀ z kk, outq z p → (fX3_setWeight_t I x p n hs (cM w) (epM w + 1) (lgM w) s c0).2 z kk = recR I x p n hs w z kk := fun z kk hz => by
        unfold outq at hz
        exact hp_n (Or.inl (by omega))
      obtain ⟨q1, q2, -⟩ := c_pre g0 h1
      have hm4 := ctX4_setWeight_t (l := l) (D := D) (T := T) (A := A) (J := J) (IsM_rec (n := n) gM gB) q1 gG.1 hs8 hb2
      have e4 : fX4_setWeight_t (fX3_setWeight_t I x p n hs (cM w) (epM w + 1) (lgM w) s c0).2 b n s c0 = ((fX4_remember (fX3_setWeight_t I x p n hs (cM w) (epM w + 1) (lgM w) s c0).2 b n) (b + 1) (8 + s), hm_put (fX4_remember (fX3_setWeight_t I x p n hs (cM w) (epM w + 1) (lgM w) s c0).2 b n) (b + 1) (8 + s) c0) := by
        unfold fX4_setWeight_t
        rw [opn_M q2 hs8, decide_eq_true ho, if_pos rfl]
      rw [e4] at hm4
      have hrow : RowIs (hm_put (fX4_remember (fX3_setWeight_t I x p n hs (cM w) (epM w + 1) (lgM w) s c0).2 b n) (b + 1) (8 + s) c0) b (opW w s (w s) c0 (w (16 + s))) := by
        intro kk hk
        rw [hp]
        unfold opW
        by_cases h1' : kk = 16 + s
        · rw [if_neg (by omega), if_pos h1', h1']; exact m_rem gG.1 q2 _ (by omega)
        · rw [if_neg h1']
          by_cases h2' : kk = 8 + s
          · rw [if_pos ⟨rfl, h2'⟩, if_pos h2']
          · rw [if_neg (by omega), if_neg h2']
            by_cases h3' : kk = s
            · rw [if_pos h3', h3']; exact m_rem gG.1 q2 _ (by omega)
            · rw [if_neg h3']; exact m_rem gG.1 q2 _ hk
      have hO' : OpnOk (opW w s (w s) c0 (w (16 + s))) := by
        intro i hi
        rw [opW_0 hi, opW_8 hs8 hi, opW_16 hs8 hi, (WfC_24 (opW_24 hs8)).1]
        by_cases ei : i = s
        · rw [if_pos ei, if_pos ei, if_pos ei]; exact ⟨Or.inr ho, fun q => absurd (ho.symm.trans q) (by decide)⟩
        · rw [if_neg ei, if_neg ei, if_neg ei]; exact gG.2.1.2.1 i hi
      have hos : osM (opW w s (w s) c0 (w (16 + s))) = osM w := osM_cong (fun i hi => by
        rw [opW_0 hi]
        by_cases ei : i = s
        · rw [if_pos ei, ei]
        · rw [if_neg ei])
      obtain ⟨r1, r2, r3, r4, r5, r6⟩ := hRel
      have fr : ∀ z kk, z ≠ p + 1 → hm_put (recR I x p n hs w) (p + 1) s c0 z kk = recR I x p n hs w z kk := fun z kk hz => hp_n (Or.inl hz)
      have hr : Rel (hm_put (recR I x p n hs w) (p + 1) s c0) p (opW w s (w s) c0 (w (16 + s))) := by
        refine Rel_24 (opW_24 hs8) ⟨by rw [fr _ _ (by omega), hos]; exact r1.1, fun i hi hoi => ?_⟩ (RelQ_frame (fun a kk h1 _ => fr a kk (by omega)) r2) (RelE_frame (good_ep gG.2.1) (fr _ _ (by omega)) (fun a kk h1 _ => fr a kk (by omega)) r3) (RelL_frame (fun a kk h1 _ => fr a kk (by omega)) r4) ((fr _ _ (by omega)).trans r5) ((fr _ _ (by omega)).trans r6)
        rw [opW_0 hi] at hoi
        rw [opW_8 hs8 hi, opW_16 hs8 hi, fr (p + 2) _ (by omega)]
        by_cases ei : i = s
        · rw [if_pos ei, if_pos ei, ei, hm_put_at]
          exact ⟨rfl, (r1.2 s hs8 ho).2⟩
        · rw [if_neg ei] at hoi
          rw [if_neg ei, if_neg ei, hp_n (Or.inr ei)]
          exact r1.2 i hi hoi
      refine ⟨.int (fX3_setWeight_t I x p n hs (cM w) (epM w + 1) (lgM w) s c0).1, recSh Sh h hs n, _, J, _, J, ⟨_, rfl⟩, CtR.mk (ctX3_setWeight_t gX gA hWs gx.1 gG.1 hs8 hb2 hox) (by decide) (by decide) rfl, CtR.mk hm4 (by decide) (by decide) ?_, ?_⟩
      · have e1 : (fX3_setWeight_t I x p n hs (cM w) (epM w + 1) (lgM w) s c0).1 = recR I x p n hs w (p + 1) s := rfl
        show some (Value.int _) = some (Value.int _)
        rw [e1, (r1.2 s hs8 ho).1, m_rem gG.1 q2 (8 + s) (by omega)]
      · exact close_c g0 (Agr_rf w) h1 hr (Good_mono (Good_24 (opW_24 hs8) hO' gG.2.1) (Nat.le_succ t)) (fun _ _ _ => rfl) (fun z kk z1 z2 => by
          show hm_put _ _ _ _ z kk = _
          rw [hp_n (Or.inl z1)]) hrow
    · rw [decide_eq_false ho] at hox
      have hm4 := ctX4_setWeight_t (l := l) (D := D) (T := T) (A := A) (J := J) gM gm.1 gG.1 hs8 hb2
      have e4 : fX4_setWeight_t I b n s c0 = ((-2), I) := by
        unfold fX4_setWeight_t
        rw [opn_M gm.2.1 hs8, decide_eq_false ho, if_neg (by decide)]
      rw [e4] at hm4
      exact ⟨.int (-2), Sh, I, J, I, J, ⟨_, rfl⟩, CtR.mk (ctX3_setWeight_s gX gA hWs gx.1 gG.1 hs8 hb2 hox) (by decide) (by decide) rfl, CtR.mk hm4 (by decide) (by decide) rfl, gs⟩
  · have hb' : (fX3_isStream a0 && fX3_isWithin c0 (nI 1) (nI 9)) = false := by rw [st_eq, within_eq]; exact nf hb
    exact ⟨.int (-1), Sh, I, J, I, J, ⟨_, rfl⟩, CtR.mk (ctX3_setWeight_b gX hb') (by decide) (by decide) rfl, CtR.mk (ctX4_setWeight_b gM (nf hb)) (by decide) (by decide) rfl, gs⟩
/-! push -/
def pW (w : Nat → Int32) (s : Nat) (z : Int32) : Nat → Int32 := fun k => if k = 265 then w 265 + nI 1 else if k = 24 + s then nI (cM w s + 1) else if k = 32 + 18 * s + 3 * cM w s + 2 then w 184 else if k = 32 + 18 * s + 3 * cM w s + 1 then z else if k = 32 + 18 * s + 3 * cM w s then w 265 else w k
theorem pW_no {w : Nat → Int32} {s k : Nat} {z : Int32} (h : k ≠ 265 ∧ k ≠ 24 + s ∧ (k < 32 + 18 * s + 3 * cM w s ∨ 32 + 18 * s + 3 * cM w s + 3 ≤ k)) : pW w s z k = w k := by
  unfold pW
  rw [if_neg h.1, if_neg h.2.1, if_neg (by omega), if_neg (by omega), if_neg (by omega)]
theorem pW_24 {w : Nat → Int32} {s s' : Nat} {z : Int32} (hs : s < 8) (hs' : s' < 8) : pW w s z (24 + s') = if s' = s then nI (cM w s + 1) else w (24 + s') := by
  by_cases e : s' = s
  · rw [if_pos e, e]; unfold pW; rw [if_neg (by omega), if_pos rfl]
  · rw [if_neg e]; exact pW_no ⟨by omega, by omega, by omega⟩
theorem pW_c {w : Nat → Int32} {s s' : Nat} {z : Int32} (hs : s < 8) (hs' : s' < 8) (hc : cM w s < 6) : cM (pW w s z) s' = if s' = s then cM w s + 1 else cM w s' := by
  have e : cM (pW w s z) s' = (pW w s z (24 + s')).toNatClampNeg := rfl
  rw [e, pW_24 hs hs']
  by_cases e : s' = s
  · rw [if_pos e, if_pos e, nI_clamp (by omega)]
  · rw [if_neg e, if_neg e]; rfl
theorem pW_cell {w : Nat → Int32} {s s' k : Nat} {z : Int32} (hG : WfC w) (hs : s < 8) (hs' : s' < 8) (hc : cM w s < 6) (hk : k < cM (pW w s z) s') :
    (s' = s ∧ k = cM w s ∧ pW w s z (32 + 18 * s' + 3 * k) = w 265 ∧ pW w s z (32 + 18 * s' + 3 * k + 1) = z ∧ pW w s z (32 + 18 * s' + 3 * k + 2) = w 184) ∨
    (¬ (s' = s ∧ k = cM w s) ∧ k < cM w s' ∧ pW w s z (32 + 18 * s' + 3 * k) = w (32 + 18 * s' + 3 * k) ∧ pW w s z (32 + 18 * s' + 3 * k + 1) = w (32 + 18 * s' + 3 * k + 1) ∧ pW w s z (32 + 18 * s' + 3 * k + 2) = w (32 + 18 * s' + 3 * k + 2)) := by
  rw [pW_c hs hs' hc] at hk
  have hcs' := cM_le hG hs'
  by_cases e : s' = s ∧ k = cM w s
  · left
    refine ⟨e.1, e.2, ?_, ?_, ?_⟩
    · rw [e.1, e.2]; unfold pW; rw [if_neg (by omega), if_neg (by omega), if_neg (by omega), if_neg (by omega), if_pos rfl]
    · rw [e.1, e.2]; unfold pW; rw [if_neg (by omega), if_neg (by omega), if_neg (by omega), if_pos rfl]
    · rw [e.1, e.2]; unfold pW; rw [if_neg (by omega), if_neg (by omega), if_pos rfl]
  · right
    have hk2 : k < cM w s' := by
      by_cases e1 : s' = s
      · rw [if_pos e1] at hk
        have : k ≠ cM w s := fun q => e ⟨e1, q⟩
        rw [e1]; omega
      · rw [if_neg e1] at hk; exact hk
    refine ⟨e, hk2, ?_⟩
    by_cases e1 : s' = s
    · have hk3 : k < cM w s := by rw [← e1]; exact hk2
      subst e1
      exact ⟨pW_no ⟨by omega, by omega, by omega⟩, pW_no ⟨by omega, by omega, by omega⟩, pW_no ⟨by omega, by omega, by omega⟩⟩
    · exact ⟨pW_no ⟨by omega, by omega, by omega⟩, pW_no ⟨by omega, by omega, by omega⟩, pW_no ⟨by omega, by omega, by omega⟩⟩
theorem pW_ep {w : Nat → Int32} {s : Nat} {z : Int32} (hs : s < 8) (hc : cM w s < 6) : epM (pW w s z) = epM w ∧ lgM (pW w s z) = lgM w := by
  refine ⟨?_, ?_⟩
  · unfold epM; rw [pW_no ⟨by omega, by omega, by omega⟩]
  · unfold lgM; rw [pW_no ⟨by omega, by omega, by omega⟩]
theorem Good_push {w : Nat → Int32} {t s zn : Nat} (ht : t < 1000) (hG : Good w t) (hs : s < 8) (ho : w s = nI 1) (hc : cM w s < 6) (hz : 1 ≤ zn ∧ zn ≤ 99) : Good (pW w s (nI zn)) (t + 1) := by
  obtain ⟨hW, hO, ⟨hD, hE⟩, hQ1, ⟨come, hq2, hq3, hq4⟩, hQ3, hQ4⟩ := hG
  obtain ⟨e1, e2⟩ := pW_ep (z := nI zn) hs hc
  have hep := hW.2.2.2.1
  have h184 : w 184 = nI (epM w) := hW.2.2.1
  have em : ∀ s' k, s' < 8 → k < cM (pW w s (nI zn)) s' → eM (pW w s (nI zn)) s' k = if s' = s ∧ k = cM w s then epM w else eM w s' k := fun s' k hs' hk => by
    unfold eM
    rcases pW_cell hW hs hs' hc hk with ⟨a1, a2, a3, a4, a5⟩ | ⟨a1, a2, a3, a4, a5⟩
    · rw [a5, if_pos ⟨a1, a2⟩]; rfl
    · rw [a5, if_neg a1]
  have nm : ∀ s' k, s' < 8 → k < cM (pW w s (nI zn)) s' → numM (pW w s (nI zn)) s' k = if s' = s ∧ k = cM w s then come else numM w s' k := fun s' k hs' hk => by
    unfold numM
    rcases pW_cell hW hs hs' hc hk with ⟨a1, a2, a3, a4, a5⟩ | ⟨a1, a2, a3, a4, a5⟩
    · rw [a3, if_pos ⟨a1, a2⟩, hq2, nI_clamp (by omega)]
    · rw [a3, if_neg a1]
  have or : ∀ r, 176 ≤ r → r + 8 ≤ 265 → OrdOk w r → OrdOk (pW w s (nI zn)) r := fun r h1 h2 h => OrdOk_cong (fun a ha => pW_no ⟨by omega, by omega, by omega⟩) h
  refine ⟨⟨fun s' hs' => ?_, fun s' hs' k hk => ?_, ?_, ?_, ?_, ?_⟩, fun s' hs' => ⟨?_, fun h0 => ?_⟩, ⟨or 176 (by omega) (by omega) hD, fun e he => ?_⟩, fun s' hs' k hk => ?_, ⟨come + 1, ?_, by omega, fun s' hs' k hk => ?_⟩, fun s1 hs1 s2 hs2 k1 hk1 k2 hk2 heq => ?_, fun s' hs' k hk => ?_⟩
  · rw [pW_c hs hs' hc, pW_24 hs hs']
    by_cases q : s' = s
    · rw [if_pos q, if_pos q]; exact ⟨rfl, by omega⟩
    · rw [if_neg q, if_neg q]; exact hW.1 s' hs'
  · rw [em s' k hs' hk, e1]
    rcases pW_cell hW hs hs' hc hk with ⟨a1, a2, a3, a4, a5⟩ | ⟨a1, a2, a3, a4, a5⟩
    · rw [a5, if_pos ⟨a1, a2⟩]; exact ⟨h184, Nat.le_refl _⟩
    · rw [a5, if_neg a1]; exact hW.2.1 s' hs' k a2
  · rw [e1, pW_no ⟨by omega, by omega, by omega⟩]; exact h184
  · rw [e1]; exact hep
  · rw [e2, pW_no ⟨by omega, by omega, by omega⟩]; exact hW.2.2.2.2.1
  · rw [e2]; exact hW.2.2.2.2.2
  · rw [pW_no ⟨by omega, by omega, by omega⟩]; exact (hO s' hs').1
  · rw [pW_no ⟨by omega, by omega, by omega⟩] at h0
    have hne : ¬ s' = s := fun q => by
      subst q
      exact absurd (h0.symm.trans ho) (by decide)
    rw [pW_no ⟨by omega, by omega, by omega⟩, pW_no ⟨by omega, by omega, by omega⟩, pW_c hs hs' hc, if_neg hne]
    exact (hO s' hs').2 h0
  · rw [e1] at he
    exact or _ (by omega) (by omega) (hE e he)
  · rw [em s' k hs' (by omega), em s' (k + 1) hs' hk]
    rw [pW_c hs hs' hc] at hk
    by_cases q : s' = s
    · rw [if_pos q] at hk
      subst q
      by_cases q2 : k + 1 = cM w s'
      · rw [if_neg (fun z => by omega), if_pos ⟨rfl, q2⟩]
        exact (hW.2.1 s' hs k (by omega)).2
      · rw [if_neg (fun z => by omega), if_neg (fun z => q2 z.2)]
        exact hQ1 s' hs k (by omega)
    · rw [if_neg q] at hk
      rw [if_neg (fun z => q z.1), if_neg (fun z => q z.1)]
      exact hQ1 s' hs' k hk
  · have : pW w s (nI zn) 265 = w 265 + nI 1 := if_pos rfl
    rw [this, hq2, nI_add]
  · rw [nm s' k hs' hk]
    rcases pW_cell hW hs hs' hc hk with ⟨a1, a2, a3, a4, a5⟩ | ⟨a1, a2, a3, a4, a5⟩
    · rw [a3, if_pos ⟨a1, a2⟩]; exact ⟨hq2, by omega⟩
    · rw [a3, if_neg a1]
      have := hq4 s' hs' k a2
      exact ⟨this.1, by omega⟩
  · rw [nm s1 k1 hs1 hk1, nm s2 k2 hs2 hk2] at heq
    rcases pW_cell hW hs hs1 hc hk1 with ⟨a1, a2, -⟩ | ⟨a1, a2, -⟩ <;> rcases pW_cell hW hs hs2 hc hk2 with ⟨b1, b2, -⟩ | ⟨b1, b2, -⟩
    · exact ⟨a1.trans b1.symm, a2.trans b2.symm⟩
    · rw [if_pos ⟨a1, a2⟩, if_neg b1] at heq
      have := (hq4 s2 hs2 k2 b2).2
      omega
    · rw [if_neg a1, if_pos ⟨b1, b2⟩] at heq
      have := (hq4 s1 hs1 k1 a2).2
      omega
    · rw [if_neg a1, if_neg b1] at heq
      exact hQ3 s1 hs1 s2 hs2 k1 a2 k2 b2 heq
  · have sz : szR (pW w s (nI zn)) s' k = if s' = s ∧ k = cM w s then zn else szR w s' k := by
      unfold szR
      rcases pW_cell hW hs hs' hc hk with ⟨a1, a2, a3, a4, a5⟩ | ⟨a1, a2, a3, a4, a5⟩
      · rw [a4, if_pos ⟨a1, a2⟩, nI_clamp (by omega)]
      · rw [a4, if_neg a1]
    rw [sz]
    rcases pW_cell hW hs hs' hc hk with ⟨a1, a2, a3, a4, a5⟩ | ⟨a1, a2, a3, a4, a5⟩
    · rw [a4, if_pos ⟨a1, a2⟩]; exact ⟨rfl, hz⟩
    · rw [a4, if_neg a1]; exact hQ4 s' hs' k a2
theorem push_X {R : hm_I} {p t s : Nat} {w : Nat → Int32} {z : Int32} (hG : Good w t) (h : Rel R p w) (hs : s < 8) (ho : w s = nI 1) (hc : cM w s < 6) :
    Rel (fX2_takeFrame_t R p (cM w) (epM w + 1) s z).2 p (pW w s z) ∧ (fX2_takeFrame_t R p (cM w) (epM w + 1) s z).1 = w 265 ∧ ∀ u k, outq u p → (fX2_takeFrame_t R p (cM w) (epM w + 1) s z).2 u k = R u k := by
  obtain ⟨⟨r1, r2⟩, ⟨r3, r4⟩, ⟨r5, r6, r7⟩, ⟨r8, r9⟩, r10, r11⟩ := h
  have hW := hG.1
  have hep := hW.2.2.2.1
  have h184 : w 184 = nI (epM w) := hW.2.2.1
  obtain ⟨e1, e2⟩ := pW_ep (w := w) (z := z) hs hc
  obtain ⟨a1, a2, a3, a4⟩ := add_spec (I := R) (a := p + 4 + 5 * s) (c := cM w s) (v := R p 7) (s0 := nI s) (z0 := z) (e0 := nI (epM w + 1 - 1))
  have hY : (fX2_takeFrame_t R p (cM w) (epM w + 1) s z).2 = hm_put (fX0_add_t R (p + 4 + 5 * s) (cM w s) (R p 7) (nI s) z (nI (epM w + 1 - 1))) p 7 ((fX0_add_t R (p + 4 + 5 * s) (cM w s) (R p 7) (nI s) z (nI (epM w + 1 - 1))) p 7 + nI 1) := rfl
  rw [hY]
  generalize fX0_add_t R (p + 4 + 5 * s) (cM w s) (R p 7) (nI s) z (nI (epM w + 1 - 1)) = Y at a1 a2 a3 a4 ⊢
  have fr : ∀ u k, u ≠ p → (u < p + 4 + 5 * s ∨ p + 4 + 5 * s + 5 ≤ u) → hm_put Y p 7 (Y p 7 + nI 1) u k = R u k := fun u k h1 h2 => by rw [hp_n (Or.inl h1), a1 u k h2]
  have fp : ∀ k, k ≠ 7 → hm_put Y p 7 (Y p 7 + nI 1) p k = R p k := fun k hk => by rw [hp_n (Or.inr hk), a1 _ _ (by omega)]
  refine ⟨⟨⟨?_, fun s' hs' ho' => ?_⟩, ⟨fun s' hs' => ?_, fun s' hs' k hk => ?_⟩, ⟨?_, fun e he => ?_, ?_⟩, ⟨?_, fun k hk => ?_⟩, ?_, ?_⟩, r10, fun u k hu => ?_⟩
  · rw [fp 0 (by omega), osM_cong (fun i hi => pW_no ⟨by omega, by omega, by omega⟩)]; exact r1
  · rw [pW_no ⟨by omega, by omega, by omega⟩] at ho'
    rw [fr _ _ (by omega) (by omega), fr _ _ (by omega) (by omega), pW_no ⟨by omega, by omega, by omega⟩, pW_no ⟨by omega, by omega, by omega⟩]
    exact r2 s' hs' ho'
  · rw [pW_24 hs hs']
    by_cases q : s' = s
    · subst q
      rw [if_pos rfl, hp_n (Or.inl (by omega)), a2]
    · rw [if_neg q, fr _ _ (by omega) (by omega)]; exact r3 s' hs'
  · rcases pW_cell hW hs hs' hc hk with ⟨c1, c2, c3, c4, c5⟩ | ⟨c1, c2, c3, c4, c5⟩
    · rw [c3, c4, c5, c2]
      subst c1
      rw [hp_n (Or.inl (by omega)), hp_n (Or.inl (by omega)), hp_n (Or.inl (by omega)), a4.1, a4.2.2.1, a4.2.2.2, h184, Nat.add_sub_cancel]
      exact ⟨r10, rfl, rfl⟩
    · rw [c3, c4, c5]
      by_cases q : s' = s
      · subst q
        have hkn : k ≠ cM w s' := fun z => c1 ⟨rfl, z⟩
        obtain ⟨d1, d2, d3, d4⟩ := a3 k hkn
        rw [hp_n (Or.inl (by omega)), hp_n (Or.inl (by omega)), hp_n (Or.inl (by omega)), d1, d3, d4]
        exact r4 s' hs' k c2
      · rw [fr _ _ (by omega) (by omega), fr _ _ (by omega) (by omega), fr _ _ (by omega) (by omega)]
        exact r4 s' hs' k c2
  · exact RelO_cong (fun a ha => pW_no ⟨by omega, by omega, by omega⟩) (RelO_frame (fun a k h1 h2 => fr a k (by omega) (by omega)) r5)
  · rw [e1] at he
    exact RelO_cong (fun a ha => pW_no ⟨by omega, by omega, by omega⟩) (RelO_frame (fun a k h1 h2 => fr a k (by omega) (by omega)) (r6 e he))
  · rw [fp 6 (by omega), e1]; exact r7
  · rw [fr _ _ (by omega) (by omega), pW_no ⟨by omega, by omega, by omega⟩]; exact r8
  · rw [e2] at hk
    have hl : lgM w ≤ 40 := hW.2.2.2.2.2
    rw [fr _ _ (by omega) (by omega), fr _ _ (by omega) (by omega), fr _ _ (by omega) (by omega), fr _ _ (by omega) (by omega), pW_no ⟨by omega, by omega, by omega⟩, pW_no ⟨by omega, by omega, by omega⟩, pW_no ⟨by omega, by omega, by omega⟩, pW_no ⟨by omega, by omega, by omega⟩]
    exact r9 k hk
  · rw [hm_put_at, a1 _ _ (by omega), r10]
    exact (if_pos rfl).symm
  · rw [fp 8 (by omega), pW_no ⟨by omega, by omega, by omega⟩]; exact r11
  · unfold outq at hu
    exact fr u k (by omega) (by omega)
theorem op_push (a0 c0 : Int32) : Op yX3_push wsX3_push yX4_push wsX4_push [.int a0, .int c0] isI := by
  intro l D T L A x b t Sh I J ht hI
  obtain ⟨p, f, h, m, k, j, hs, im, n, w, P, Q, kp, g⟩ := hI
  have gs := Inv_s g
  have hWs := c_wfs g
  have hRel := c_rel g
  have g0 := g
  obtain ⟨gX, gA, gM, gB, gG, gx, gm, gF⟩ := g
  by_cases hb : (fX4_isStream a0 && fX4_isIn c0 (nI 1) (nI 99)) = true
  · rw [Bool.and_eq_true] at hb
    obtain ⟨hb1, hb2⟩ := hb
    obtain ⟨s, hs8, e⟩ := st_true hb1
    obtain ⟨zn, hz1, hz2, ez⟩ := (within_iff (by decide) (by decide)).mp hb2
    subst e
    have hox := opn_X gx.2.1.1 hs8
    have hc6 := cM_le gG.2.1.1 hs8
    by_cases ho : w s = nI 1
    · rw [decide_eq_true ho] at hox
      by_cases hc : cM w s = 6
      · have hm4 := ctX4_push_t (l := l) (D := D) (T := T) (A := A) (J := J) gM (m_wf gG.2.1 gm.2.1) gm.1 gG.1 hs8 hb2
        have e4 : fX4_push_t I b n (cM w) s c0 = ((-3), I) := by
          unfold fX4_push_t
          rw [opn_M gm.2.1 hs8, decide_eq_true ho, if_pos rfl, if_pos hc]
        rw [e4] at hm4
        exact ⟨.int (-3), Sh, I, J, I, J, ⟨_, rfl⟩, CtR.mk (ctX3_push_f gX gA hWs gx.1 gG.1 hs8 hb2 hox hc) (by decide) (by decide) rfl, CtR.mk hm4 (by decide) (by decide) rfl, gs⟩
      · have hc' : cM w s < 6 := by omega
        obtain ⟨p1, p2, p3⟩ := push_X (z := c0) gG.2.1 hRel hs8 ho hc'
        have h1 : ∀ z kk, outq z p → (fX3_push_t I x p n hs (cM w) (epM w + 1) (lgM w) s c0).2 z kk = recR I x p n hs w z kk := p3
        obtain ⟨q1, q2, -⟩ := c_pre g0 h1
        have hrm := m_rem gG.1 q2
        have hm4 := ctX4_push_t (l := l) (D := D) (T := T) (A := A) (J := J) (IsM_rec (n := n) gM gB) (m_wf gG.2.1 q2) q1 gG.1 hs8 hb2
        generalize hY : fX4_remember (fX3_push_t I x p n hs (cM w) (epM w + 1) (lgM w) s c0).2 b n = Y at hrm
        have e4 : fX4_push_t (fX3_push_t I x p n hs (cM w) (epM w + 1) (lgM w) s c0).2 b n (cM w) s c0 = ((Y (b + 1) 265 + (nI 1)) - (nI 1), hm_put (hm_put (hm_put (hm_put (hm_put Y (b + 1) (32 + 18 * s + 3 * (cM w s)) (Y (b + 1) 265)) (b + 1) (32 + 18 * s + 3 * (cM w s) + 1) c0) (b + 1) (32 + 18 * s + 3 * (cM w s) + 2) (Y (b + 1) 184)) (b + 1) (24 + s) (nI ((cM w s) + 1))) (b + 1) 265 (Y (b + 1) 265 + (nI 1))) := by
          unfold fX4_push_t
          rw [opn_M q2 hs8, decide_eq_true ho, if_pos rfl, if_neg hc, hY]
        rw [e4] at hm4
        have hrow : RowIs (hm_put (hm_put (hm_put (hm_put (hm_put Y (b + 1) (32 + 18 * s + 3 * (cM w s)) (Y (b + 1) 265)) (b + 1) (32 + 18 * s + 3 * (cM w s) + 1) c0) (b + 1) (32 + 18 * s + 3 * (cM w s) + 2) (Y (b + 1) 184)) (b + 1) (24 + s) (nI ((cM w s) + 1))) (b + 1) 265 (Y (b + 1) 265 + (nI 1))) b (pW w s c0) := by
          intro kk hk
          rw [hp, hp, hp, hp, hp, hrm 265 (by omega), hrm 184 (by omega), hrm kk hk]
          unfold pW
          simp only [true_and]
        obtain ⟨come, d1, d2, -⟩ := gG.2.1.2.2.2.2.1
        refine ⟨.int (fX3_push_t I x p n hs (cM w) (epM w + 1) (lgM w) s c0).1, recSh Sh h hs n, _, J, _, J, ⟨_, rfl⟩, CtR.mk (ctX3_push_t gX gA hWs gx.1 gG.1 hs8 hb2 hox hc') (by decide) (by decide) rfl, CtR.mk hm4 (by decide) (by decide) ?_, ?_⟩
        · have e1 : (fX3_push_t I x p n hs (cM w) (epM w + 1) (lgM w) s c0).1 = w 265 := p2
          show some (Value.int _) = some (Value.int _)
          rw [e1, hrm 265 (by omega), d1, nI_add, pk_sub (by omega), Nat.add_sub_cancel]
        · exact close_c g0 (Agr_rf w) h1 p1 (by rw [ez]; exact Good_push ht gG.2.1 hs8 ho hc' ⟨hz1, hz2⟩) (fun _ _ _ => rfl) (fun z kk z1 z2 => by
            rw [hY]
            show hm_put _ _ _ _ z kk = _
            rw [hp_n (Or.inl z1), hp_n (Or.inl z1), hp_n (Or.inl z1), hp_n (Or.inl z1), hp_n (Or.inl z1)]) hrow
    · rw [decide_eq_false ho] at hox
      have hm4 := ctX4_push_t (l := l) (D := D) (T := T) (A := A) (J := J) gM (m_wf gG.2.1 gm.2.1) gm.1 gG.1 hs8 hb2
      have e4 : fX4_push_t I b n (cM w) s c0 = ((-2), I) := by
        unfold fX4_push_t
        rw [opn_M gm.2.1 hs8, decide_eq_false ho, if_neg (by decide)]
      rw [e4] at hm4
      exact ⟨.int (-2), Sh, I, J, I, J, ⟨_, rfl⟩, CtR.mk (ctX3_push_s gX gA hWs gx.1 gG.1 hs8 hb2 hox) (by decide) (by decide) rfl, CtR.mk hm4 (by decide) (by decide) rfl, gs⟩
  · have hb' : (fX3_isStream a0 && fX3_isWithin c0 (nI 1) (nI 99)) = false := by rw [st_eq, within_eq]; exact nf hb
    exact ⟨.int (-1), Sh, I, J, I, J, ⟨_, rfl⟩, CtR.mk (ctX3_push_b gX hb') (by decide) (by decide) rfl, CtR.mk (ctX4_push_b gM (nf hb)) (by decide) (by decide) rfl, gs⟩
