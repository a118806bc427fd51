/-! part 48: told, stream, frame, log -/
theorem within_f {v : Int32} {b : Nat} (hb : b < 2 ^ 31) (h : fX4_isIn v (nI 0) (nI b) = false) : v.toInt < 0 ∨ (b : Int) < v.toInt := by
  unfold fX4_isIn at h
  have h0 : (nI 0).toInt = 0 := nI_toInt (n := 0) (by decide)
  by_cases h1 : v < nI 0
  · left; rw [Int32.lt_iff_toInt_lt, h0] at h1; exact h1
  · rw [if_neg h1] at h
    by_cases h2 : nI b < v
    · right; rw [Int32.lt_iff_toInt_lt, nI_toInt hb] at h2; exact h2
    · rw [if_neg h2] at h; exact absurd h (by decide)
theorem size_eq {I X : hm_I} {p b : Nat} {w : Nat → Int32} (hG : WfC w) (hQ : RelQ I p w) (hR : RowIs X b w) {s : Nat} (hs : s < 8) : fX0_sizeOfAll I (p + 4 + 5 * s) (cM w s) = fX4_waitingSize X b (cM w) s := by
  unfold fX0_sizeOfAll fX4_waitingSize
  have := cM_le hG hs
  refine lp_cong rfl (fun i z hi => ?_)
  rw [(hQ.2 s hs i hi).2.1, hR _ (by omega)]
theorem cands_X {I : hm_I} {q t : Nat} {w : Nat → Int32} (hG : Good w t) (hQ : RelQ I q w) (hE : RelE I q w) : fX2_candidateCount I q (cM w) (eM w) = lp 8 (fun i x => if candR w i = true then x + 1 else x) (nI 0) := by
  unfold fX2_candidateCount
  refine lp_cong rfl (fun i z hi => ?_)
  rw [cand_X hG (Agr_rf w) hQ hE hi]
theorem cands_M {I : hm_I} {b t : Nat} {w : Nat → Int32} (hG : Good w t) (hR : RowIs I b w) : (fX4_candidates I b (cM w) (eM w)).1 = lp 8 (fun i x => if candR w i = true then x + 1 else x) (nI 0) ∧ ∀ z k, z ≠ b + 4 → (fX4_candidates I b (cM w) (eM w)).2 z k = I z k := by
  have key := lq_rel (n := 8) (f := fun i4 (x4 : hm_I × Int32) => if (fX4_isCandidate_t x4.1 b (cM w) (eM w) i4).1 = true then ((fX4_isCandidate_t x4.1 b (cM w) (eM w) i4).2, x4.2 + (nI 1)) else ((fX4_isCandidate_t x4.1 b (cM w) (eM w) i4).2, x4.2 + (nI 0))) (g := fun i x => if candR w i = true then x + 1 else x) (x := (I, (nI 0))) (y := nI 0)
    (fun i x y => (∀ z k, z ≠ b + 4 → x.1 z k = I z k) ∧ x.2 = y) ⟨fun _ _ _ => rfl, rfl⟩ (fun i u v hi huv => ?_)
  · exact ⟨key.2, key.1⟩
  · have hM := cand_M hG (Agr_rf w) (row_same hR huv.1) hi
    rw [hM.1]
    by_cases q : candR w i = true
    · rw [if_pos q, if_pos q]
      exact ⟨fun z k hz => (hM.2 z k hz).trans (huv.1 z k hz), by rw [← huv.2]; rfl⟩
    · rw [if_neg q, if_neg q]
      exact ⟨fun z k hz => (hM.2 z k hz).trans (huv.1 z k hz), by show u.2 + nI 0 = v; rw [nI_0, Int32.add_zero]; exact huv.2⟩
theorem lpr_al {g : Nat → Unit → Bool ⊕ Unit} {P : Nat → Bool} (h : ∀ i, i < 8 → g i () = if P i = true then .inr () else .inl false) : lpr g (fun _ => true) 8 0 () = lp 8 (fun i x => x && P i) true := by
  have stay : ∀ r i, i + r = 8 → lp i (fun i x => x && P i) true = false → lp 8 (fun i x => x && P i) true = false := by
    intro r
    induction r with
    | zero => intro i hi h0; have e : i = 8 := by omega
              subst e; exact h0
    | succ r ih => intro i hi h0; exact ih (i + 1) (by omega) (by rw [lp_s, h0, Bool.false_and])
  have key : ∀ r i, i + r = 8 → lp i (fun i x => x && P i) true = true → lpr g (fun _ => true) r i () = lp 8 (fun i x => x && P i) true := by
    intro r
    induction r with
    | zero => intro i hi h0; have e : i = 8 := by omega
              subst e; exact h0.symm
    | succ r ih =>
      intro i hi h0
      by_cases q : P i = true
      · rw [lpr_r ((h i (by omega)).trans (if_pos q))]
        exact ih (i + 1) (by omega) (by rw [lp_s, h0, q]; rfl)
      · rw [lpr_l ((h i (by omega)).trans (if_neg q))]
        exact (stay r (i + 1) (by omega) (by rw [lp_s, h0, nf q]; rfl)).symm
  exact key 8 0 (by omega) rfl
theorem same_eq {I X : hm_I} {p b t : Nat} {w : Nat → Int32} (hG : Good w t) (hE : RelE I p w) (hR : RowIs X b w) : fX3_told_11 I p (epM w + 1) = fX4_told_11 X b (epM w) := by
  have hep := good_ep hG
  have e : fX1_hasSameEdges I (p + 44) (p + 48 + 3 * (epM w + 1 - 1)) = fX4_isCommitted X b (epM w) := by
    unfold fX1_hasSameEdges fX4_isCommitted
    rw [lpr_al (P := fun i => decide (w (176 + i) = w (185 + 8 * epM w + i))) (fun i hi => by
      rw [Nat.add_sub_cancel, (hE.1 i hi).1, (hE.2.1 _ (Nat.le_refl _) i hi).1]
      by_cases q : w (176 + i) = w (185 + 8 * epM w + i)
      · rw [if_pos q, decide_eq_true q, if_pos rfl]
      · rw [if_neg q, decide_eq_false q, if_neg (by decide)])]
    refine lp_cong rfl (fun i z hi => ?_)
    rw [hR _ (by omega), hR _ (by omega)]
    by_cases q : w (176 + i) = w (185 + 8 * epM w + i)
    · rw [if_pos q, decide_eq_true q]
    · rw [if_neg q, decide_eq_false q]
  unfold fX3_told_11 fX4_told_11
  rw [e]
theorem op_told (a0 : Int32) : Op yX3_told wsX3_told yX4_told wsX4_told [.int a0] isI := by
  intro l D T L A x b t Sh I J ht hI
  obtain ⟨p, f, h, m, k, j, hs, im, n, w, P, Q, kp, g⟩ := hI
  have gs := Inv_s g
  have hWs := c_wfs g
  have g0 := g
  obtain ⟨gX, gA, gM, gB, gG, gx, gm, gF⟩ := g
  have hr := gx.2.1
  have hR := gm.2.1
  have hwm := m_wf gG.2.1 hR
  rcases bool_cases (fX4_isIn a0 (nI 0) (nI 11)) with hc | hc
  · exact ⟨.int (-1), Sh, I, J, I, J, ⟨_, rfl⟩, CtR.mk (ctX3_told_b gX hc) (by decide) (by decide) rfl, CtR.mk (ctX4_told_b gM (within_f (by decide) hc)) (by decide) (by decide) rfl, gs⟩
  · obtain ⟨q, -, hq, ea⟩ := (within_iff (by decide) (by decide)).mp hc
    subst ea
    have e : q = 0 ∨ q = 1 ∨ q = 2 ∨ q = 3 ∨ q = 4 ∨ q = 5 ∨ q = 6 ∨ q = 7 ∨ q = 8 ∨ q = 9 ∨ q = 10 ∨ q = 11 := by omega
    rcases e with e | e | e | e | e | e | e | e | e | e | e | e <;> subst e
    · refine ⟨_, Sh, I, J, I, J, ⟨_, rfl⟩, CtR.mk (ctX3_told_0 gX gA hWs gx.1 gG.1) (by decide) (by decide) rfl, CtR.mk (ctX4_told_0 gM hwm gm.1 gG.1) (by decide) (by decide) ?_, gs⟩
      rw [hr.1.1, opened_eq gG.2.1.2.1]
      unfold fX4_opened
      exact congrArg (fun v => some (Value.int v)) (lp_cong rfl (fun i z hi => by rw [Nat.zero_add i, hR _ (by omega)]))
    · exact ⟨_, Sh, I, J, I, J, ⟨_, rfl⟩, CtR.mk (ctX3_told_1 gX gA hWs gx.1 gG.1) (by decide) (by decide) rfl, CtR.mk (ctX4_told_1 gM hwm gm.1 gG.1) (by decide) (by decide) (by rw [wait_X, wait_M gG.2.1.1 hR]), gs⟩
    · exact ⟨_, Sh, I, J, I, J, ⟨_, rfl⟩, CtR.mk (ctX3_told_2 gX gA hWs gx.1 gG.1) (by decide) (by decide) rfl, CtR.mk (ctX4_told_2 gM hwm gm.1 gG.1) (by decide) (by decide) (by rw [hr.2.2.2.2.1, hR _ (by omega)]), gs⟩
    · exact ⟨_, Sh, I, J, I, J, ⟨_, rfl⟩, CtR.mk (ctX3_told_3 gX gA hWs gx.1 gG.1) (by decide) (by decide) rfl, CtR.mk (ctX4_told_3 gM hwm gm.1 gG.1) (by decide) (by decide) (by rw [hr.2.2.2.2.2, hR _ (by omega)]), gs⟩
    · refine ⟨_, Sh, I, J, I, J, ⟨_, rfl⟩, CtR.mk (ctX3_told_4 gX gA hWs gx.1 gG.1) (by decide) (by decide) rfl, CtR.mk (ctX4_told_4 gM hwm gm.1 gG.1) (by decide) (by decide) ?_, gs⟩
      unfold fX4_allWaitingSizes fX2_waitingSize
      exact congrArg (fun v => some (Value.int v)) (lp_cong rfl (fun i z hi => by rw [size_eq gG.2.1.1 hr.2.1 hR hi]))
    · exact ⟨_, Sh, I, J, I, J, ⟨_, rfl⟩, CtR.mk (ctX3_told_5 gX gA hWs gx.1 gG.1) (by decide) (by decide) rfl, CtR.mk (ctX4_told_5 gM hwm gm.1 gG.1) (by decide) (by decide) (by rw [Nat.add_sub_cancel]), gs⟩
    · have hO := gG.2.1.2.2.1.1
      have ee := edges_eq (I := I) (o := p + 44) (X := I) (b := b) (r := 176) (N := mk w 176) (fun a ha => ⟨(hr.2.2.1.1 a ha).1.trans (hO.1 a ha).1, (hO.1 a ha).2⟩) (fun a ha => (hR _ (by omega)).trans (hO.1 a ha).1)
      exact ⟨_, Sh, I, J, I, J, ⟨_, rfl⟩, CtR.mk (ctX3_told_6 gX gA hWs gx.1 gG.1) (by decide) (by decide) rfl, CtR.mk (ctX4_told_6 gM hwm gm.1 gG.1) (by decide) (by decide) (by rw [ee]), gs⟩
    · have hm := cands_M gG.2.1 hR
      exact ⟨_, Sh, I, J, _, J, ⟨_, rfl⟩, CtR.mk (ctX3_told_7 gX gA hWs gx.1 gG.1) (by decide) (by decide) rfl, CtR.mk (ctX4_told_7 gM hwm gm.1 gG.1) (by decide) (by decide) (by rw [cands_X gG.2.1 hr.2.1 hr.2.2.1, hm.1]), close_q g0 (fun _ _ _ => rfl) (fun z kk z1 z2 => hm.2 z kk (by omega)) (row_same hR hm.2)⟩
    · have hm := next_M gG.2.1 (Agr_rf w) hR
      exact ⟨_, Sh, I, J, _, J, ⟨_, rfl⟩, CtR.mk (ctX3_told_8 gX gA hWs gx.1 gG.1) (by decide) (by decide) rfl, CtR.mk (ctX4_told_8 gM hwm gm.1 gG.1) (by decide) (by decide) (by rw [next_X gG.2.1 (Agr_rf w) hr.1 hr.2.1 hr.2.2.1, hm.1]), close_q g0 (fun _ _ _ => rfl) (fun z kk z1 z2 => hm.2 z kk (by omega)) (row_same hR hm.2)⟩
    · exact ⟨_, Sh, I, J, I, J, ⟨_, rfl⟩, CtR.mk (ctX3_told_9 gX gA hWs gx.1 gG.1) (by decide) (by decide) rfl, CtR.mk (ctX4_told_9 gM hwm gm.1 gG.1) (by decide) (by decide) rfl, gs⟩
    · exact ⟨_, Sh, I, J, I, J, ⟨_, rfl⟩, CtR.mk (ctX3_told_10 gX gA hWs gx.1 gG.1) (by decide) (by decide) rfl, CtR.mk (ctX4_told_10 gM hwm gm.1 gG.1) (by decide) (by decide) rfl, gs⟩
    · exact ⟨_, Sh, I, J, I, J, ⟨_, rfl⟩, CtR.mk (ctX3_told_11 gX gA hWs gx.1 gG.1) (by decide) (by decide) rfl, CtR.mk (ctX4_told_11 gM hwm) (by decide) (by decide) (by rw [same_eq gG.2.1 hr.2.2.1 hR]), gs⟩
/-- what is foretold of a waiting frame, by both -/
theorem before_both {L : List Nat} {Sh : hm_S} {I : hm_I} {x p f h m k j b n t : Nat} {hs im : Nat → Nat} {w : Nat → Int32} {P Q : Nat → Nat → Int32} {kp : Nat → Bool} (ht : t < 1000) (g : GI L Sh I x p f h m k j b hs im n w P Q kp t) {s a : Nat} (hs8 : s < 8) (ha : a < cM w s) :
    ∃ mm, ∃ InvX : Nat → hm_I × Int32 → Prop, ∃ InvM : Nat → hm_I → Prop, BefS (fX2_copyFrom I f p (cM w) (epM w + 1) (lgM w)) f s mm a InvX ∧ BefOk (fX3_sentBefore I p f s a mm (cM w) (epM w + 1) (lgM w)).2 b mm ((fX3_sentBefore I p f s a mm (cM w) (epM w + 1) (lgM w)).2 (b + 1) (32 + 18 * s + 3 * a + 0)) InvM ∧
      RowIs (fX3_sentBefore I p f s a mm (cM w) (epM w + 1) (lgM w)).2 b w ∧ Inv L x b (t + 1) Sh (fX4_before_t (fX3_sentBefore I p f s a mm (cM w) (epM w + 1) (lgM w)).2 b mm).2 := by
  have g0 := g
  obtain ⟨gX, gA, gM, gB, gG, gx, gm, gF⟩ := g
  obtain ⟨mm, hm, hB⟩ := ex_bef (t := t) hs8 (totN w) w a (Nat.le_refl _) gG.2.1 ha
  have htl := tot_le gG.2.1.1
  obtain ⟨x1, x2⟩ := bef_X (far_symm gA.2.2.1) (Agr_rf w) gx.2.1 gG.2.1 hs8 ha (by omega) hB
  have hR1 : RowIs (fX3_sentBefore I p f s a mm (cM w) (epM w + 1) (lgM w)).2 b w := fun kk hk => by
    rw [x2 _ _ (gB _ (by omega) (by omega)).2.2.1]; exact gm.2.1 kk hk
  obtain ⟨y1, y2, y3⟩ := bef_M (by omega) hR1 gG.2.1 hs8 ha (by omega) hB
  exact ⟨mm, _, _, x1, y1, hR1, close_q g0 x2 (fun z kk z1 z2 => y2 z kk z1 (by omega) (by omega)) y3⟩
theorem op_stream (a0 c0 : Int32) : Op yX3_stream wsX3_stream yX4_stream wsX4_stream [.int a0, .int c0] isI := by
  intro l D T L A x b t Sh I J ht hI
  obtain ⟨p, f, h, m, k, j, hs, im, n, w, P, Q, kp, g⟩ := hI
  have gs := Inv_s g
  have hWs := c_wfs g
  have g0 := g
  obtain ⟨gX, gA, gM, gB, gG, gx, gm, gF⟩ := g
  have hr := gx.2.1
  have hR := gm.2.1
  have hwm := m_wf gG.2.1 hR
  by_cases hb : (fX4_isStream a0 && fX4_isIn c0 (nI 0) (nI 7)) = true
  · rw [Bool.and_eq_true] at hb
    obtain ⟨hb1, hb2⟩ := hb
    obtain ⟨s, hs8, e⟩ := st_true hb1
    obtain ⟨q, -, hq, ea⟩ := (within_iff (by decide) (by decide)).mp hb2
    subst e
    subst ea
    have hox := opn_X hr.1 hs8
    have hO := gG.2.1.2.1 s hs8
    have e : q = 0 ∨ q = 1 ∨ q = 2 ∨ q = 3 ∨ q = 4 ∨ q = 5 ∨ q = 6 ∨ q = 7 := by omega
    rcases e with e | e | e | e | e | e | e | e <;> subst e
    · refine ⟨_, Sh, I, J, I, J, ⟨_, rfl⟩, CtR.mk (ctX3_stream_0 gX gA hWs hs8) (by decide) (by decide) rfl, CtR.mk (ctX4_stream_0 gM hs8) (by decide) (by decide) ?_, gs⟩
      unfold fX3_stream_0
      rw [hox, Nat.zero_add, hR _ (by omega)]
      rcases hO.1 with z | z
      · rw [z, decide_eq_false (by decide), if_neg (by decide)]
      · rw [z, decide_eq_true rfl, if_pos rfl]
    · refine ⟨_, Sh, I, J, I, J, ⟨_, rfl⟩, CtR.mk (ctX3_stream_1 gX gA hWs hs8) (by decide) (by decide) rfl, CtR.mk (ctX4_stream_1 gM hs8) (by decide) (by decide) ?_, gs⟩
      unfold fX3_stream_1
      rw [hox, hR _ (by omega)]
      rcases hO.1 with z | z
      · rw [(hO.2 z).1, z, decide_eq_false (by decide), if_neg (by decide)]
      · rw [(hr.1.2 s hs8 z).1, z, decide_eq_true rfl, if_pos rfl]
    · refine ⟨_, Sh, I, J, I, J, ⟨_, rfl⟩, CtR.mk (ctX3_stream_2 gX gA hWs hs8) (by decide) (by decide) rfl, CtR.mk (ctX4_stream_2 gM hs8) (by decide) (by decide) ?_, gs⟩
      unfold fX3_stream_2
      rw [hox, hR _ (by omega)]
      rcases hO.1 with z | z
      · rw [(hO.2 z).2.1, z, decide_eq_false (by decide), if_neg (by decide)]
      · rw [(hr.1.2 s hs8 z).2, z, decide_eq_true rfl, if_pos rfl]
    · refine ⟨_, Sh, I, J, I, J, ⟨_, rfl⟩, CtR.mk (ctX3_stream_3 gX gA hWs hs8) (by decide) (by decide) rfl, CtR.mk (ctX4_stream_3 gM hs8) (by decide) (by decide) ?_, gs⟩
      unfold fX3_stream_3
      rw [hR _ (by omega), (gG.2.1.1.1 s hs8).1]
    · refine ⟨_, Sh, I, J, I, J, ⟨_, rfl⟩, CtR.mk (ctX3_stream_4 gX gA hWs hs8) (by decide) (by decide) rfl, CtR.mk (ctX4_stream_4 gM hwm hs8) (by decide) (by decide) ?_, gs⟩
      unfold fX3_stream_4
      rw [size_eq gG.2.1.1 hr.2.1 hR hs8]
    · have hm4 := ctX4_stream_5 (l := l) (D := D) (T := T) (A := A) (J := J) gM hwm hs8
      by_cases hc : cM w s = 0
      · have e4 : fX4_stream_5 I b (cM w) (eM w) s = ((-9), I) := by unfold fX4_stream_5; rw [if_pos hc]
        rw [e4] at hm4
        exact ⟨_, Sh, I, J, I, J, ⟨_, rfl⟩, CtR.mk (ctX3_stream_n5 gX gA hWs hs8 hc) (by decide) (by decide) rfl, CtR.mk hm4 (by decide) (by decide) rfl, gs⟩
      · have hm := cand_M gG.2.1 (Agr_rf w) hR hs8
        have e4 : fX4_stream_5 I b (cM w) (eM w) s = ((if candR w s = true then nI 1 else nI 0), (fX4_isCandidate_t I b (cM w) (eM w) s).2) := by
          unfold fX4_stream_5
          rw [if_neg hc, hm.1]
          by_cases z : candR w s = true
          · rw [if_pos z, if_pos z]
          · rw [if_neg z, if_neg z]
        rw [e4] at hm4
        refine ⟨_, Sh, I, J, _, J, ⟨_, rfl⟩, CtR.mk (ctX3_stream_5 gX gA hWs hs8 (by omega)) (by decide) (by decide) rfl, CtR.mk hm4 (by decide) (by decide) ?_, close_q g0 (fun _ _ _ => rfl) (fun z kk z1 z2 => hm.2 z kk (by omega)) (row_same hR hm.2)⟩
        unfold fX3_stream_5
        rw [cand_X gG.2.1 (Agr_rf w) hr.2.1 hr.2.2.1 hs8]
    · have hm4 := ctX4_stream_6 (l := l) (D := D) (T := T) (A := A) (J := J) gM hwm hs8
      by_cases hc : cM w s = 0
      · have e4 : fX4_stream_6 I b (cM w) (eM w) s = ((-9), I) := by unfold fX4_stream_6; rw [if_pos hc]
        rw [e4] at hm4
        exact ⟨_, Sh, I, J, I, J, ⟨_, rfl⟩, CtR.mk (ctX3_stream_n6 gX gA hWs hs8 hc) (by decide) (by decide) rfl, CtR.mk hm4 (by decide) (by decide) rfl, gs⟩
      · have hm := blk_M gG.2.1 (Agr_rf w) hR hs8 (show 0 < cM w s by omega)
        have e4 : fX4_stream_6 I b (cM w) (eM w) s = (nI (blkN w s), (fX4_blocking_t I b (cM w) (eM w) s).2) := by
          unfold fX4_stream_6
          rw [if_neg hc, hm.1]
        rw [e4] at hm4
        exact ⟨_, Sh, I, J, _, J, ⟨_, rfl⟩, CtR.mk (ctX3_stream_6 gX gA hWs hs8 (by omega)) (by decide) (by decide) rfl, CtR.mk hm4 (by decide) (by decide) (by rw [blk_X gG.2.1 (Agr_rf w) hr.2.1 hr.2.2.1 hs8 (by omega)]), close_q g0 (fun _ _ _ => rfl) (fun z kk z1 z2 => hm.2 z kk (by omega)) (row_same hR hm.2)⟩
    · by_cases hc : cM w s = 0
      · exact ⟨_, Sh, I, J, I, J, ⟨_, rfl⟩, CtR.mk (ctX3_stream_n7 gX gA hWs hs8 hc) (by decide) (by decide) rfl, CtR.mk (ctX4_stream_7n gM hwm hs8 hc) (by decide) (by decide) rfl, gs⟩
      · obtain ⟨mm, InvX, InvM, b1, b2, b3, b4⟩ := before_both ht g0 hs8 (show 0 < cM w s by omega)
        exact ⟨_, Sh, _, J, _, J, ⟨_, rfl⟩, CtR.mk (ctX3_stream_7 gX gA hWs hs8 (by omega) b1) (by decide) (by decide) rfl, CtR.mk (ctX4_stream_7t gM (m_wf gG.2.1 b3) hs8 (by omega) b2) (by decide) (by decide) rfl, b4⟩
  · have hb' : (fX3_isStream a0 && fX3_isWithin c0 (nI 0) (nI 7)) = false := by rw [st_eq, within_eq]; exact nf hb
    exact ⟨.int (-1), Sh, I, J, I, J, ⟨_, rfl⟩, CtR.mk (ctX3_stream_b gX hb') (by decide) (by decide) rfl, CtR.mk (ctX4_stream_b gM (nf hb)) (by decide) (by decide) rfl, gs⟩
theorem op_frame (a0 k0 c0 : Int32) : Op yX3_frame wsX3_frame yX4_frame wsX4_frame [.int a0, .int k0, .int c0] isI := by
  intro l D T L A x b t Sh I J ht hI
  obtain ⟨p, f, h, m, k, j, hs, im, n, w, P, Q, kp, g⟩ := hI
  have gs := Inv_s g
  have hWs := c_wfs g
  have g0 := g
  obtain ⟨gX, gA, gM, gB, gG, gx, gm, gF⟩ := g
  have hr := gx.2.1
  have hR := gm.2.1
  have hwm := m_wf gG.2.1 hR
  by_cases hb : fX4_isStream a0 = true ∧ ¬ k0 < 0 ∧ fX4_isIn c0 (nI 0) (nI 3) = true
  · obtain ⟨hb1, hk0, hb2⟩ := hb
    obtain ⟨s, hs8, e⟩ := st_true hb1
    obtain ⟨q, -, hq, ea⟩ := (within_iff (by decide) (by decide)).mp hb2
    obtain ⟨a, ha, ek⟩ := nI_of hk0
    subst e
    subst ek
    have hc6 := cM_le gG.2.1.1 hs8
    rcases Nat.lt_or_ge a (cM w s) with hc | hc
    · subst ea
      have e : q = 0 ∨ q = 1 ∨ q = 2 ∨ q = 3 := by omega
      rcases e with e | e | e | e <;> subst e
      · exact ⟨_, Sh, I, J, I, J, ⟨_, rfl⟩, CtR.mk (ctX3_frame_0 gX gA hWs hs8 hc) (by decide) (by decide) rfl, CtR.mk (ctX4_frame_0 gM hwm hs8 hc) (by decide) (by decide) (by rw [(hr.2.1.2 s hs8 a hc).1, hR _ (by omega)]; rfl), gs⟩
      · exact ⟨_, Sh, I, J, I, J, ⟨_, rfl⟩, CtR.mk (ctX3_frame_1 gX gA hWs hs8 hc) (by decide) (by decide) rfl, CtR.mk (ctX4_frame_1 gM hwm hs8 hc) (by decide) (by decide) (by rw [(hr.2.1.2 s hs8 a hc).2.1, hR _ (by omega)]), gs⟩
      · exact ⟨_, Sh, I, J, I, J, ⟨_, rfl⟩, CtR.mk (ctX3_frame_2 gX gA hWs hs8 hc) (by decide) (by decide) rfl, CtR.mk (ctX4_frame_2 gM hwm hs8 hc) (by decide) (by decide) (by rw [(hr.2.1.2 s hs8 a hc).2.2, hR _ (by omega)]), gs⟩
      · obtain ⟨mm, InvX, InvM, b1, b2, b3, b4⟩ := before_both ht g0 hs8 hc
        exact ⟨_, Sh, _, J, _, J, ⟨_, rfl⟩, CtR.mk (ctX3_frame_3 gX gA hWs hs8 hc b1) (by decide) (by decide) rfl, CtR.mk (ctX4_frame_3 gM (m_wf gG.2.1 b3) hs8 hc b2) (by decide) (by decide) rfl, b4⟩
    · exact ⟨_, Sh, I, J, I, J, ⟨_, rfl⟩, CtR.mk (ctX3_frame_n gX gA hWs hs8 ha hc hb2) (by decide) (by decide) rfl, CtR.mk (ctX4_frame_n gM hwm hs8 ha hc hb2) (by decide) (by decide) rfl, gs⟩
  · have hb4 : fX4_isStream a0 = true → ¬ k0 < 0 → fX4_isIn c0 (nI 0) (nI 3) = false := fun h1 h2 => nf (fun h3 => hb ⟨h1, h2, h3⟩)
    exact ⟨.int (-1), Sh, I, J, I, J, ⟨_, rfl⟩, CtR.mk (ctX3_frame_b gX (fun h1 h2 => hb4 (by rw [← st_eq]; exact h1) h2)) (by decide) (by decide) rfl, CtR.mk (ctX4_frame_b gM hb4) (by decide) (by decide) rfl, gs⟩
theorem op_log (k0 c0 : Int32) : Op yX3_log wsX3_log yX4_log wsX4_log [.int k0, .int c0] isI := by
  intro l D T L A x b t Sh I J ht hI
  obtain ⟨p, f, h, m, k, j, hs, im, n, w, P, Q, kp, g⟩ := hI
  have gs := Inv_s g
  have hWs := c_wfs g
  have g0 := g
  obtain ⟨gX, gA, gM, gB, gG, gx, gm, gF⟩ := g
  have hr := gx.2.1
  have hR := gm.2.1
  have hwm := m_wf gG.2.1 hR
  have hl40 : lgM w ≤ 40 := gG.2.1.1.2.2.2.2.2
  by_cases hb : (∃ a, a < lgM w ∧ k0 = nI a) ∧ fX4_isIn c0 (nI 0) (nI 3) = true
  · obtain ⟨⟨a, ha, ek⟩, hb2⟩ := hb
    obtain ⟨q, -, hq, ea⟩ := (within_iff (by decide) (by decide)).mp hb2
    subst ek
    subst ea
    have hin : fX4_isIn (nI a) (nI 0) (nI (lgM w) - nI 1) = true := by
      rw [pk_sub (show 1 ≤ lgM w by omega)]
      exact (within_iff (by decide) (by omega)).mpr ⟨a, Nat.zero_le a, by omega, rfl⟩
    have hl := hr.2.2.2.1.2 a ha
    have e : q = 0 ∨ q = 1 ∨ q = 2 ∨ q = 3 := by omega
    rcases e with e | e | e | e <;> subst e
    · exact ⟨_, Sh, I, J, I, J, ⟨_, rfl⟩, CtR.mk (ctX3_log_0 gX gA hWs ha) (by decide) (by decide) rfl, CtR.mk (ctX4_log_0 gM hwm ha hin) (by decide) (by decide) (by rw [hl.1, hR _ (by omega)]; rfl), gs⟩
    · exact ⟨_, Sh, I, J, I, J, ⟨_, rfl⟩, CtR.mk (ctX3_log_1 gX gA hWs ha) (by decide) (by decide) rfl, CtR.mk (ctX4_log_1 gM hwm ha hin) (by decide) (by decide) (by rw [hl.2.1, hR _ (by omega)]), gs⟩
    · exact ⟨_, Sh, I, J, I, J, ⟨_, rfl⟩, CtR.mk (ctX3_log_2 gX gA hWs ha) (by decide) (by decide) rfl, CtR.mk (ctX4_log_2 gM hwm ha hin) (by decide) (by decide) (by rw [hl.2.2.1, hR _ (by omega)]), gs⟩
    · exact ⟨_, Sh, I, J, I, J, ⟨_, rfl⟩, CtR.mk (ctX3_log_3 gX gA hWs ha) (by decide) (by decide) rfl, CtR.mk (ctX4_log_3 gM hwm ha hin) (by decide) (by decide) (by rw [hl.2.2.2, hR _ (by omega)]), gs⟩
  · have hx : ¬ k0 < 0 → ¬ nI (lgM w) ≤ k0 → fX3_isWithin c0 (nI 0) (nI 3) = false := fun h1 h2 => by
      rw [within_eq]
      refine nf (fun h3 => hb ⟨?_, h3⟩)
      rcases pk_ix k0 (n := lgM w) (by omega) with q | q | q
      · exact absurd q h1
      · exact absurd q h2
      · exact q
    have h4 : (fX4_isIn k0 (nI 0) (nI (lgM w) - nI 1) && fX4_isIn c0 (nI 0) (nI 3)) = false := by
      rcases bool_cases (fX4_isIn c0 (nI 0) (nI 3)) with hc | hc
      · rw [hc, Bool.and_false]
      · rw [hc, Bool.and_true]
        refine nf (fun h3 => hb ⟨?_, hc⟩)
        unfold fX4_isIn at h3
        rcases pk_ix k0 (n := lgM w) (by omega) with q | q | q
        · have q' : k0 < nI 0 := by rw [nI_0]; exact q
          rw [if_pos q'] at h3; exact absurd h3 (by decide)
        · have q' : nI (lgM w) - nI 1 < k0 := by
            have e1 := pk_sub_toInt (a := lgM w) (b := 1) (by omega) (by decide)
            rw [Int32.le_iff_toInt_le, nI_toInt (by omega)] at q
            rw [Int32.lt_iff_toInt_lt, e1]
            omega
          by_cases q0 : k0 < nI 0
          · rw [if_pos q0] at h3; exact absurd h3 (by decide)
          · rw [if_neg q0, if_pos q'] at h3; exact absurd h3 (by decide)
        · exact q
    exact ⟨.int (-1), Sh, I, J, I, J, ⟨_, rfl⟩, CtR.mk (ctX3_log_b gX gA hWs hx) (by decide) (by decide) rfl, CtR.mk (ctX4_log_b gM hwm h4) (by decide) (by decide) rfl, gs⟩
