/-! part 48: told, stream, frame, log -/
theorem lpr_al {g : Nat → Unit → Bool ⊕ Unit} {P : Nat → Bool} (h : ∀ i, i < 8 → g i () = if P i = true then .inr () else .inl false) : lpr g (fun _ => true) 8 0 () = lp 8 (fun i x => x && P i) true := by
  have stay : ∀ r i, i + r = 8 → lp i (fun i x => x && P i) true = false → lp 8 (fun i x => x && P i) true = false := by
    intro r
    induction r with
    | zero => intro i hi h0; have e : i = 8 := by omega
              subst e; exact h0
    | succ r ih => intro i hi h0; exact ih (i + 1) (by omega) (by rw [lp_s, h0, Bool.false_and])
  have key : ∀ r i, i + r = 8 → lp i (fun i x => x && P i) true = true → lpr g (fun _ => true) r i () = lp 8 (fun i x => x && P i) true := by
    intro r
    induction r with
    | zero => intro i hi h0; have e : i = 8 := by omega
              subst e; exact h0.symm
    | succ r ih =>
      intro i hi h0
      by_cases q : P i = true
      · rw [lpr_r ((h i (by omega)).trans (if_pos q))]
        exact ih (i + 1) (by omega) (by rw [lp_s, h0, q]; rfl)
      · rw [lpr_l ((h i (by omega)).trans (if_neg q))]
        exact (stay r (i + 1) (by omega) (by rw [lp_s, h0, nf q]; rfl)).symm
  exact key 8 0 (by omega) rfl
def sizN (w : Nat → Int32) (s : Nat) : Nat := lp (cM w s) (fun k n => n + szR w s k) 0
def allN (w : Nat → Int32) : Nat := lp 8 (fun s n => n + sizN w s) 0
def cndN (w : Nat → Int32) : Nat := lp 8 (fun s n => if candR w s = true then n + 1 else n) 0
theorem siz_X {I : hm_I} {p t : Nat} {w : Nat → Int32} (hG : Good w t) (hQ : RelQ I p w) {s : Nat} (hs : s < 8) : fX0_sizeOfAll I (p + 4 + 5 * s) (cM w s) = nI (sizN w s) := by
  unfold fX0_sizeOfAll sizN
  refine lq_rel (n := cM w s) (fun _ x y => x = nI y) rfl (fun i x y hi hxy => ?_)
  rw [(hQ.2 s hs i hi).2.1, (hG.2.2.2.2.2.2 s hs i hi).1, hxy, nI_add]
theorem all_X {I : hm_I} {p t : Nat} {w : Nat → Int32} (hG : Good w t) (hQ : RelQ I p w) : fX2_waitingSize I p (cM w) = nI (allN w) := by
  unfold fX2_waitingSize allN
  refine lq_rel (n := 8) (fun _ x y => x = nI y) rfl (fun i x y hi hxy => ?_)
  rw [siz_X hG hQ hi, hxy, nI_add]
theorem cnds_X {I : hm_I} {q t : Nat} {w : Nat → Int32} (hG : Good w t) (hQ : RelQ I q w) (hE : RelE I q w) : fX2_candidateCount I q (cM w) (eM w) = nI (cndN w) := by
  unfold fX2_candidateCount cndN
  refine lq_rel (n := 8) (fun _ x y => x = nI y) rfl (fun i x y hi hxy => ?_)
  rw [cand_X hG (Agr_rf w) hQ hE hi]
  by_cases q : candR w i = true
  · rw [if_pos q, if_pos q, hxy]; exact nI_add y 1
  · rw [if_neg q, if_neg q]; exact hxy
def sameN (w : Nat → Int32) : Bool := lp 8 (fun i x => x && decide (w (176 + i) = w (185 + 8 * epM w + i))) true
theorem same_X {I : hm_I} {p t : Nat} {w : Nat → Int32} (hG : Good w t) (hE : RelE I p w) : fX3_told_11 I p (epM w + 1) = if sameN w = true then nI 1 else nI 0 := by
  have hep := good_ep hG
  have e : fX1_hasSameEdges I (p + 44) (p + 48 + 3 * (epM w + 1 - 1)) = sameN w := by
    unfold fX1_hasSameEdges sameN
    refine lpr_al (P := fun i => decide (w (176 + i) = w (185 + 8 * epM w + i))) (fun i hi => ?_)
    rw [Nat.add_sub_cancel, (hE.1 i hi).1, (hE.2.1 _ (Nat.le_refl _) i hi).1]
    by_cases q : w (176 + i) = w (185 + 8 * epM w + i)
    · rw [if_pos q, decide_eq_true q, if_pos rfl]
    · rw [if_neg q, decide_eq_false q, if_neg (by decide)]
  unfold fX3_told_11
  rw [e]
/-- what told answers -/
def fTold (n : Nat) (w : Nat → Int32) (q : Nat) : Int32 := match q with
  | 0 => fJ6_bitCount_0f7a4 (nI (osM w))
  | 1 => nI (totN w)
  | 2 => w 265
  | 3 => w 266
  | 4 => nI (allN w)
  | 5 => nI (epM w)
  | 6 => nI (edgN (mk w 176))
  | 7 => nI (cndN w)
  | 8 => enc (nxtN w)
  | 9 => nI (lgM w)
  | 10 => nI n
  | _ => if sameN w = true then nI 1 else nI 0
theorem op_told {q : Nat} (hq : q < 12) {n t : Nat} {w : Nat → Int32} {P Q : Nat → Nat → Int32} {kp : Nat → Bool} : OpX yX3_told wsX3_told [.int (nI q)] t t (n, w, P, Q, kp) (.int (fTold n w q)) (n, w, P, Q, kp) := by
  intro l D T L A x Sh I J hI
  have gs := hI
  obtain ⟨p, f, h, m, k, j, hs, im, g⟩ := hI
  change GIx L Sh I x p f h m k j hs im n w P Q kp t at g
  have hWs := c_wfsx g
  have g0 := g
  obtain ⟨gX, gA, gG, gx, gF⟩ := g
  have hr := gx.2.1
  have hO := gG.2.1.2.2.1.1
  have e : q = 0 ∨ q = 1 ∨ q = 2 ∨ q = 3 ∨ q = 4 ∨ q = 5 ∨ q = 6 ∨ q = 7 ∨ q = 8 ∨ q = 9 ∨ q = 10 ∨ q = 11 := by omega
  rcases e with e | e | e | e | e | e | e | e | e | e | e | e <;> subst e
  · exact ⟨Sh, I, J, CtR.mk (ctX3_told_0 gX gA hWs gx.1 gG.1) (by decide) (by decide) (by rw [hr.1.1]; rfl), gs⟩
  · exact ⟨Sh, I, J, CtR.mk (ctX3_told_1 gX gA hWs gx.1 gG.1) (by decide) (by decide) (by rw [wait_X]; rfl), gs⟩
  · exact ⟨Sh, I, J, CtR.mk (ctX3_told_2 gX gA hWs gx.1 gG.1) (by decide) (by decide) (by rw [hr.2.2.2.2.1]; rfl), gs⟩
  · exact ⟨Sh, I, J, CtR.mk (ctX3_told_3 gX gA hWs gx.1 gG.1) (by decide) (by decide) (by rw [hr.2.2.2.2.2]; rfl), gs⟩
  · exact ⟨Sh, I, J, CtR.mk (ctX3_told_4 gX gA hWs gx.1 gG.1) (by decide) (by decide) (by rw [all_X gG.2.1 hr.2.1]; rfl), gs⟩
  · exact ⟨Sh, I, J, CtR.mk (ctX3_told_5 gX gA hWs gx.1 gG.1) (by decide) (by decide) (by rw [Nat.add_sub_cancel]; rfl), gs⟩
  · exact ⟨Sh, I, J, CtR.mk (ctX3_told_6 gX gA hWs gx.1 gG.1) (by decide) (by decide) (by rw [edges_X (N := mk w 176) (fun a ha => ⟨(hr.2.2.1.1 a ha).1.trans (hO.1 a ha).1, (hO.1 a ha).2⟩)]; rfl), gs⟩
  · exact ⟨Sh, I, J, CtR.mk (ctX3_told_7 gX gA hWs gx.1 gG.1) (by decide) (by decide) (by rw [cnds_X gG.2.1 hr.2.1 hr.2.2.1]; rfl), gs⟩
  · exact ⟨Sh, I, J, CtR.mk (ctX3_told_8 gX gA hWs gx.1 gG.1) (by decide) (by decide) (by rw [next_X gG.2.1 (Agr_rf w) hr.1 hr.2.1 hr.2.2.1]; rfl), gs⟩
  · exact ⟨Sh, I, J, CtR.mk (ctX3_told_9 gX gA hWs gx.1 gG.1) (by decide) (by decide) (rfl), gs⟩
  · exact ⟨Sh, I, J, CtR.mk (ctX3_told_10 gX gA hWs gx.1 gG.1) (by decide) (by decide) (rfl), gs⟩
  · exact ⟨Sh, I, J, CtR.mk (ctX3_told_11 gX gA hWs gx.1 gG.1) (by decide) (by decide) (by rw [same_X gG.2.1 hr.2.2.1]; rfl), gs⟩
/-- how many are sent before a waiting frame -/
noncomputable def bfN (s : Nat) (w : Nat → Int32) (a t : Nat) : Nat := Classical.epsilon (fun m => m < totN w ∧ befOk s w a t m)
theorem bfN_ok {s t a : Nat} {w : Nat → Int32} (hs : s < 8) (hG : Good w t) (ha : a < cM w s) : bfN s w a t < totN w ∧ befOk s w a t (bfN s w a t) := Classical.epsilon_spec (ex_bef hs (totN w) w a (Nat.le_refl _) hG ha)
theorem before_x {L : List Nat} {Sh : hm_S} {I : hm_I} {x p f h m k j n t : Nat} {hs im : Nat → Nat} {w : Nat → Int32} {P Q : Nat → Nat → Int32} {kp : Nat → Bool} (g : GIx L Sh I x p f h m k j hs im n w P Q kp t) {s a : Nat} (hs8 : s < 8) (ha : a < cM w s) :
    ∃ InvS : Nat → hm_I × Int32 → Prop, BefS (fX2_copyFrom I f p (cM w) (epM w + 1) (lgM w)) f s (bfN s w a t) a InvS ∧ GIx L Sh (fX3_sentBefore I p f s a (bfN s w a t) (cM w) (epM w + 1) (lgM w)).2 x p f h m k j hs im n w P Q kp t := by
  have g0 := g
  obtain ⟨gX, gA, gG, gx, gF⟩ := g
  obtain ⟨hm, hB⟩ := bfN_ok hs8 gG.2.1 ha
  have htl := tot_le gG.2.1.1
  obtain ⟨x1, x2⟩ := bef_X (far_symm gA.2.2.1) (Agr_rf w) gx.2.1 gG.2.1 hs8 ha (by omega) hB
  exact ⟨_, x1, close_qx g0 x2⟩
/-- what stream answers -/
noncomputable def fStrm (w : Nat → Int32) (t s q : Nat) : Int32 := match q with
  | 0 => w s
  | 1 => w (8 + s)
  | 2 => w (16 + s)
  | 3 => nI (cM w s)
  | 4 => nI (sizN w s)
  | 5 => if cM w s = 0 then -9 else if candR w s = true then nI 1 else nI 0
  | 6 => if cM w s = 0 then -9 else nI (blkN w s)
  | _ => if cM w s = 0 then -9 else nI (bfN s w 0 t)
theorem fStrm_0 (w : Nat → Int32) (t s : Nat) : fStrm w t s 0 = w s := rfl
theorem fStrm_1 (w : Nat → Int32) (t s : Nat) : fStrm w t s 1 = w (8 + s) := rfl
theorem fStrm_2 (w : Nat → Int32) (t s : Nat) : fStrm w t s 2 = w (16 + s) := rfl
theorem fStrm_3 (w : Nat → Int32) (t s : Nat) : fStrm w t s 3 = nI (cM w s) := rfl
theorem fStrm_4 (w : Nat → Int32) (t s : Nat) : fStrm w t s 4 = nI (sizN w s) := rfl
theorem fStrm_5 (w : Nat → Int32) (t s : Nat) : fStrm w t s 5 = if cM w s = 0 then -9 else if candR w s = true then nI 1 else nI 0 := rfl
theorem fStrm_6 (w : Nat → Int32) (t s : Nat) : fStrm w t s 6 = if cM w s = 0 then -9 else nI (blkN w s) := rfl
theorem fStrm_7 (w : Nat → Int32) (t s : Nat) : fStrm w t s 7 = if cM w s = 0 then -9 else nI (bfN s w 0 t) := rfl
theorem op_stream {s q : Nat} (hs8 : s < 8) (hq : q < 8) {n t : Nat} {w : Nat → Int32} {P Q : Nat → Nat → Int32} {kp : Nat → Bool} : OpX yX3_stream wsX3_stream [.int (nI s), .int (nI q)] t t (n, w, P, Q, kp) (.int (fStrm w t s q)) (n, w, P, Q, kp) := by
  intro l D T L A x Sh I J hI
  have gs := hI
  obtain ⟨p, f, h, m, k, j, hs, im, g⟩ := hI
  change GIx L Sh I x p f h m k j hs im n w P Q kp t at g
  have hWs := c_wfsx g
  have g0 := g
  obtain ⟨gX, gA, gG, gx, gF⟩ := g
  have hr := gx.2.1
  have hox := opn_X hr.1 hs8
  have hO := gG.2.1.2.1 s hs8
  have e : q = 0 ∨ q = 1 ∨ q = 2 ∨ q = 3 ∨ q = 4 ∨ q = 5 ∨ q = 6 ∨ q = 7 := by omega
  rcases e with e | e | e | e | e | e | e | e <;> subst e
  · refine ⟨Sh, I, J, CtR.mk (ctX3_stream_0 gX gA hWs hs8) (by decide) (by decide) ?_, gs⟩
    rw [fStrm_0]
    unfold fX3_stream_0
    rw [hox]
    rcases hO.1 with z | z
    · rw [z, decide_eq_false (by decide), if_neg (by decide)]
    · rw [z, decide_eq_true rfl, if_pos rfl]
  · refine ⟨Sh, I, J, CtR.mk (ctX3_stream_1 gX gA hWs hs8) (by decide) (by decide) ?_, gs⟩
    rw [fStrm_1]
    unfold fX3_stream_1
    rw [hox]
    rcases hO.1 with z | z
    · rw [(hO.2 z).1, z, decide_eq_false (by decide), if_neg (by decide)]
    · rw [(hr.1.2 s hs8 z).1, z, decide_eq_true rfl, if_pos rfl]
  · refine ⟨Sh, I, J, CtR.mk (ctX3_stream_2 gX gA hWs hs8) (by decide) (by decide) ?_, gs⟩
    rw [fStrm_2]
    unfold fX3_stream_2
    rw [hox]
    rcases hO.1 with z | z
    · rw [(hO.2 z).2.1, z, decide_eq_false (by decide), if_neg (by decide)]
    · rw [(hr.1.2 s hs8 z).2, z, decide_eq_true rfl, if_pos rfl]
  · exact ⟨Sh, I, J, CtR.mk (ctX3_stream_3 gX gA hWs hs8) (by decide) (by decide) rfl, gs⟩
  · exact ⟨Sh, I, J, CtR.mk (ctX3_stream_4 gX gA hWs hs8) (by decide) (by decide) (congrArg (fun v => some (Value.int v)) (siz_X gG.2.1 hr.2.1 hs8)), gs⟩
  · rw [fStrm_5]
    by_cases hc : cM w s = 0
    · rw [if_pos hc]
      exact ⟨Sh, I, J, CtR.mk (ctX3_stream_n5 gX gA hWs hs8 hc) (by decide) (by decide) rfl, gs⟩
    · rw [if_neg hc]
      refine ⟨Sh, I, J, CtR.mk (ctX3_stream_5 gX gA hWs hs8 (by omega)) (by decide) (by decide) ?_, gs⟩
      unfold fX3_stream_5
      rw [cand_X gG.2.1 (Agr_rf w) hr.2.1 hr.2.2.1 hs8]
  · rw [fStrm_6]
    by_cases hc : cM w s = 0
    · rw [if_pos hc]
      exact ⟨Sh, I, J, CtR.mk (ctX3_stream_n6 gX gA hWs hs8 hc) (by decide) (by decide) rfl, gs⟩
    · rw [if_neg hc]
      exact ⟨Sh, I, J, CtR.mk (ctX3_stream_6 gX gA hWs hs8 (by omega)) (by decide) (by decide) (by rw [blk_X gG.2.1 (Agr_rf w) hr.2.1 hr.2.2.1 hs8 (by omega)]), gs⟩
  · rw [fStrm_7]
    by_cases hc : cM w s = 0
    · rw [if_pos hc]
      exact ⟨Sh, I, J, CtR.mk (ctX3_stream_n7 gX gA hWs hs8 hc) (by decide) (by decide) rfl, gs⟩
    · rw [if_neg hc]
      obtain ⟨InvS, b1, b2⟩ := before_x g0 hs8 (show 0 < cM w s by omega)
      exact ⟨Sh, _, J, CtR.mk (ctX3_stream_7 gX gA hWs hs8 (by omega) b1) (by decide) (by decide) rfl, p, f, h, m, k, j, hs, im, b2⟩
/-- what frame answers -/
noncomputable def fFr (w : Nat → Int32) (t s a q : Nat) : Int32 := match q with
  | 0 => nI (numM w s a)
  | 1 => nI (szR w s a)
  | 2 => nI (eM w s a)
  | _ => nI (bfN s w a t)
theorem fFr_0 (w : Nat → Int32) (t s a : Nat) : fFr w t s a 0 = nI (numM w s a) := rfl
theorem fFr_1 (w : Nat → Int32) (t s a : Nat) : fFr w t s a 1 = nI (szR w s a) := rfl
theorem fFr_2 (w : Nat → Int32) (t s a : Nat) : fFr w t s a 2 = nI (eM w s a) := rfl
theorem fFr_3 (w : Nat → Int32) (t s a : Nat) : fFr w t s a 3 = nI (bfN s w a t) := rfl
noncomputable def fFrm (w : Nat → Int32) (t s a q : Nat) : Int32 := if a < cM w s then fFr w t s a q else -9
theorem op_frame {s a q : Nat} (hs8 : s < 8) (ha : a < 1000) (hq : q < 4) {n t : Nat} {w : Nat → Int32} {P Q : Nat → Nat → Int32} {kp : Nat → Bool} : OpX yX3_frame wsX3_frame [.int (nI s), .int (nI a), .int (nI q)] t t (n, w, P, Q, kp) (.int (fFrm w t s a q)) (n, w, P, Q, kp) := by
  intro l D T L A x Sh I J hI
  have gs := hI
  obtain ⟨p, f, h, m, k, j, hs, im, g⟩ := hI
  change GIx L Sh I x p f h m k j hs im n w P Q kp t at g
  have hWs := c_wfsx g
  have g0 := g
  obtain ⟨gX, gA, gG, gx, gF⟩ := g
  have hr := gx.2.1
  have hG := gG.2.1
  unfold fFrm
  by_cases hc : a < cM w s
  · rw [if_pos hc]
    have e : q = 0 ∨ q = 1 ∨ q = 2 ∨ q = 3 := by omega
    rcases e with e | e | e | e <;> subst e
    · obtain ⟨come, -, -, c3⟩ := hG.2.2.2.2.1
      exact ⟨Sh, I, J, CtR.mk (ctX3_frame_0 gX gA hWs hs8 hc) (by decide) (by decide) (by rw [(hr.2.1.2 s hs8 a hc).1, (c3 s hs8 a hc).1, fFr_0]), gs⟩
    · exact ⟨Sh, I, J, CtR.mk (ctX3_frame_1 gX gA hWs hs8 hc) (by decide) (by decide) (by rw [(hr.2.1.2 s hs8 a hc).2.1, (hG.2.2.2.2.2.2 s hs8 a hc).1, fFr_1]), gs⟩
    · exact ⟨Sh, I, J, CtR.mk (ctX3_frame_2 gX gA hWs hs8 hc) (by decide) (by decide) (by rw [(hr.2.1.2 s hs8 a hc).2.2, (ep_le hG.1 hs8 hc).1, fFr_2]), gs⟩
    · obtain ⟨InvS, b1, b2⟩ := before_x g0 hs8 hc
      exact ⟨Sh, _, J, CtR.mk (ctX3_frame_3 gX gA hWs hs8 hc b1) (by decide) (by decide) rfl, p, f, h, m, k, j, hs, im, b2⟩
  · rw [if_neg hc]
    exact ⟨Sh, I, J, CtR.mk (ctX3_frame_n gX gA hWs hs8 (show a < 2 ^ 31 by omega) (Nat.le_of_not_lt hc) ((within_iff (by decide) (by decide)).mpr ⟨q, Nat.zero_le q, by omega, rfl⟩)) (by decide) (by decide) rfl, gs⟩
theorem op_log {a q : Nat} (hq : q < 4) {n t : Nat} {w : Nat → Int32} {P Q : Nat → Nat → Int32} {kp : Nat → Bool} (ha : a < lgM w) : OpX yX3_log wsX3_log [.int (nI a), .int (nI q)] t t (n, w, P, Q, kp) (.int (w (268 + 4 * a + q))) (n, w, P, Q, kp) := by
  intro l D T L A x Sh I J hI
  have gs := hI
  obtain ⟨p, f, h, m, k, j, hs, im, g⟩ := hI
  change GIx L Sh I x p f h m k j hs im n w P Q kp t at g
  have hWs := c_wfsx g
  have g0 := g
  obtain ⟨gX, gA, gG, gx, gF⟩ := g
  have hr := gx.2.1
  have hl := hr.2.2.2.1.2 a ha
  have e : q = 0 ∨ q = 1 ∨ q = 2 ∨ q = 3 := by omega
  rcases e with e | e | e | e <;> subst e
  · exact ⟨Sh, I, J, CtR.mk (ctX3_log_0 gX gA hWs ha) (by decide) (by decide) (by rw [hl.1]; rfl), gs⟩
  · exact ⟨Sh, I, J, CtR.mk (ctX3_log_1 gX gA hWs ha) (by decide) (by decide) (by rw [hl.2.1]), gs⟩
  · exact ⟨Sh, I, J, CtR.mk (ctX3_log_2 gX gA hWs ha) (by decide) (by decide) (by rw [hl.2.2.1]), gs⟩
  · exact ⟨Sh, I, J, CtR.mk (ctX3_log_3 gX gA hWs ha) (by decide) (by decide) (by rw [hl.2.2.2]), gs⟩
