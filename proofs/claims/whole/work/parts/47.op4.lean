/-! part 47: send, sendSome, undo, keep, back -/
theorem sum8 (f : Nat → Nat) : lp 8 (fun i x => x + nI (f i)) (nI 0) = nI (f 0 + f 1 + f 2 + f 3 + f 4 + f 5 + f 6 + f 7) := by
  show nI 0 + nI (f 0) + nI (f 1) + nI (f 2) + nI (f 3) + nI (f 4) + nI (f 5) + nI (f 6) + nI (f 7) = _
  simp only [nI_add, Nat.zero_add]
theorem wait_X (w : Nat → Int32) : fX2_waitingCount (cM w) = nI (totN w) := sum8 (cM w)
theorem wait_M {I : hm_I} {b : Nat} {w : Nat → Int32} (hG : WfC w) (hR : RowIs I b w) : fX4_waiting I b = nI (totN w) := by
  unfold fX4_waiting
  rw [← wait_X]
  unfold fX2_waitingCount
  refine lp_cong rfl (fun i z hi => ?_)
  rw [hR _ (by omega), (hG.1 i hi).1]
theorem op_send : Op yX3_send wsX3_send yX4_send wsX4_send [] isI := by
  intro l D T L A x b t Sh I J ht hI
  obtain ⟨p, f, h, m, k, j, hs, im, n, w, P, Q, kp, g⟩ := hI
  have gs := Inv_s g
  have hWs := c_wfs g
  have hRel := c_rel g
  have g0 := g
  obtain ⟨gX, gA, gM, gB, gG, gx, gm, gF⟩ := g
  have hr := gx.2.1
  have hnx := next_X gG.2.1 (Agr_rf w) hr.1 hr.2.1 hr.2.2.1
  have htl := tot_le gG.2.1.1
  by_cases h0 : totN w = 0
  · rw [nxt_none (tot_0 h0)] at hnx
    exact ⟨.int (-2), Sh, I, J, I, J, ⟨_, rfl⟩, CtR.mk (ctX3_send_n gX gA hWs gx.1 gG.1 hnx) (by decide) (by decide) rfl, CtR.mk (ctX4_send_0 gM (by rw [wait_M gG.2.1.1 gm.2.1, h0]; exact nI_0)) (by decide) (by decide) rfl, gs⟩
  · obtain ⟨k1, k2, k3, k4⟩ := stp_ok gG.2.1 (by omega)
    rw [enc_lt k1] at hnx
    obtain ⟨q1, q2⟩ := send_X gG.2.1 (Agr_rf w) hRel k1 k2
    have h1 : ∀ z kk, outq z p → (fX3_send_t I x p n hs (cM w) (epM w + 1) (lgM w) (nxtN w)).2 z kk = recR I x p n hs w z kk := fun z kk hz => q2 z kk hz
    obtain ⟨c1, c2, -⟩ := c_pre g0 h1
    have hrm := m_rem gG.1 c2
    have hm := send_M gG.2.1 (Agr_rf w) hrm k1
    have hmn := next_M gG.2.1 (Agr_rf w) hrm
    rw [enc_lt k1] at hmn
    have hm4 := ctX4_send_t (l := l) (D := D) (T := T) (A := A) (J := J) (IsM_rec (n := n) gM gB) (m_wf gG.2.1 c2) c1 gG.1 k1 k2 (by rw [wait_M gG.2.1.1 c2]; exact nI_ne0 (by omega) (by omega)) hmn.1
    refine ⟨_, recSh Sh h hs n, _, J, _, J, ⟨_, rfl⟩, CtR.mk (ctX3_send_t gX gA hWs gx.1 gG.1 k1 k2 hnx) (by decide) (by decide) rfl, CtR.mk hm4 (by decide) (by decide) ?_, close_c g0 (Agr_rf w) h1 q1 (Good_mono k3 (Nat.le_succ t)) (fun _ _ _ => rfl) (fun z kk z1 z2 => hm.2.1 z kk z1 (by omega)) hm.2.2⟩
    have e1 : (fX3_send_t I x p n hs (cM w) (epM w + 1) (lgM w) (nxtN w)).1 = recR I x p n hs w ((p + 4 + 5 * nxtN w) + 1) 0 := rfl
    show some (Value.int _) = some (Value.int _)
    rw [e1, (hRel.2.1.2 _ k1 0 k2).1]
    exact congrArg (fun v => some (Value.int v)) hm.1
theorem op_sendSome (a0 : Int32) : Op yX3_sendSome wsX3_sendSome yX4_sendSome wsX4_sendSome [.int a0] isI := by
  intro l D T L A x b t Sh I J ht hI
  obtain ⟨p, f, h, m, k, j, hs, im, n, w, P, Q, kp, g⟩ := hI
  have gs := Inv_s g
  have hWs := c_wfs g
  have hRel := c_rel g
  have g0 := g
  obtain ⟨gX, gA, gM, gB, gG, gx, gm, gF⟩ := g
  rcases bool_cases (fX4_isIn a0 (nI 0) (nI 999)) with hc | hc
  · exact ⟨.int (-1), Sh, I, J, I, J, ⟨_, rfl⟩, CtR.mk (ctX3_sendSome_b gX hc) (by decide) (by decide) rfl, CtR.mk (ctX4_sendSome_b gM hc) (by decide) (by decide) rfl, gs⟩
  · obtain ⟨bd, -, hbd, ea⟩ := (within_iff (by decide) (by decide)).mp hc
    subst ea
    obtain ⟨mm, hS⟩ := ex_some (bd := bd) (totN w) w 0 rfl gG.2.1 (Nat.zero_le bd)
    obtain ⟨x1, x2, x3, x4, x5⟩ := some_X hRel gG.2.1 hbd hS
    have h1 : ∀ z kk, outq z p → (fX3_sendSome_tA I x p n hs (cM w) (epM w + 1) (lgM w) mm (nI bd)).2 z kk = recR I x p n hs w z kk := fun z kk hz => x5 z kk hz
    have hr1 : Rel (fX3_sendSome_tA I x p n hs (cM w) (epM w + 1) (lgM w) mm (nI bd)).2 p (itC w 0 mm).1 := x4
    obtain ⟨c1, c2, -⟩ := c_pre g0 h1
    have hrm := m_rem gG.1 c2
    obtain ⟨y1, y2, y3, y4, y5⟩ := some_M hrm gG.2.1 hbd hS
    have hGm := (hS.1 mm (Nat.le_refl mm)).1
    have hnm := ns_M hGm y4
    have cl : ∀ I2 : hm_I, (∀ z kk, I2 z kk = (nsM (lp mm (fun _ x => ss1 x b) (fX4_remember (fX3_sendSome_tA I x p n hs (cM w) (epM w + 1) (lgM w) mm (nI bd)).2 b n, nI 0)).1 b).2 z kk) → Inv L x b (t + 1) (recSh Sh h hs n) I2 := fun I2 hI2 =>
      close_c g0 (Agr_rf w) h1 hr1 (Good_mono hGm (Nat.le_succ t)) (fun _ _ _ => rfl) (fun z kk z1 z2 => by
        rw [hI2, hnm.2 z kk (by omega)]
        exact y5 z kk z1 (by omega)) (fun kk hk => by
        rw [hI2]
        exact row_same y4 hnm.2 kk hk)
    have htot := hS.1 mm (Nat.le_refl mm)
    have htl := tot_le gG.2.1.1
    rcases hS.2.2 with hz | ⟨hz1, hz2⟩
    · have hm4 := ctX4_sendSome_tA (l := l) (D := D) (T := T) (A := A) (J := J) (IsM_rec (n := n) gM gB) c1 gG.1 hc y1 (y2 hz)
      rcases Nat.lt_or_ge mm 48 with q | q
      · exact ⟨_, recSh Sh h hs n, _, J, _, J, ⟨_, rfl⟩, CtR.mk (ctX3_sendSome_tA gX gA hWs gx.1 gG.1 hc x1 (x2 hz q)) (by decide) (by decide) rfl, CtR.mk hm4 (by decide) (by decide) rfl, cl _ (fun _ _ => rfl)⟩
      · exact ⟨_, recSh Sh h hs n, _, J, _, J, ⟨_, rfl⟩, CtR.mk (ctX3_sendSome_tC gX gA hWs gx.1 gG.1 hc x1 (show mm = 48 by omega)) (by decide) (by decide) rfl, CtR.mk hm4 (by decide) (by decide) rfl, cl _ (fun _ _ => rfl)⟩
    · have hm4 := ctX4_sendSome_tB (l := l) (D := D) (T := T) (A := A) (J := J) (IsM_rec (n := n) gM gB) c1 gG.1 hc y1 (y3 hz1 hz2)
      exact ⟨_, recSh Sh h hs n, _, J, _, J, ⟨_, rfl⟩, CtR.mk (ctX3_sendSome_tB gX gA hWs gx.1 gG.1 hc x1 (x3 hz1 hz2)) (by decide) (by decide) rfl, CtR.mk hm4 (by decide) (by decide) rfl, cl _ (fun _ _ => rfl)⟩
/-! undo -/
theorem op_undo : Op yX3_undo wsX3_undo yX4_undo wsX4_undo [] isI := by
  intro l D T L A x b t Sh I J ht hI
  obtain ⟨p, f, h, m, k, j, hs, im, n, w, P, Q, kp, g⟩ := hI
  have gs := Inv_s g
  have g0 := g
  obtain ⟨gX, gA, gM, gB, gG, gx, gm, gF⟩ := g
  cases n with
  | zero =>
    have hm4 := ctX4_undo (l := l) (D := D) (T := T) (A := A) (J := J) gM gm.1 gG.1
    have e4 : fX4_undo I b 0 = ((-2), I) := by unfold fX4_undo; rw [if_pos rfl]
    rw [e4] at hm4
    dsimp only at hm4
    exact ⟨.int (-2), Sh, I, J, I, J, ⟨_, rfl⟩, CtR.mk (ctX3_undo_0 gX gA gx.1) (by decide) (by decide) rfl, CtR.mk hm4 (by decide) (by decide) rfl, gs⟩
  | succ n =>
    have hn8 : n < 8 := by have := gG.1; omega
    have hx3 := ctX3_undo_t (l := l) (D := D) (T := T) (L := L) (A := A) (Sh := Sh) (J := J) gX gA gx.1 hn8
    have ox := gA.2.1 x sml_x
    have hkx : k ≠ x := fun q => gA.1.2.2.1 q.symm
    have e1 : ∀ z kk, z ≠ x → hm_put I x 3 (nI n) z kk = I z kk := fun z kk hz => hp_n (Or.inl hz)
    have eb : ∀ z kk, b ≤ z → z < b + 9 → hm_put I x 3 (nI n) z kk = I z kk := fun z kk z1 z2 => e1 z kk (apB_x gB sml_x z1 z2)
    have gm1 : GM (hm_put I x 3 (nI n)) b (n + 1) w P Q kp := GM_same gm eb
    obtain ⟨a1, a2, a3, ⟨u, u1, u2, u3⟩, a5⟩ := gm1
    have gM' : IsM L (va_up (va_up Sh x (kO 3 [some (some (hs n)), some (some f), some (some h), none, some (some m), some (some k), some (some j)])) h (kR 2 8 (va_up (fun i => some (hs i)) n (some p)))) b := IsM_up gM (fun z z1 z2 => (va_up_ne _ _ (apB_x gB sml_h z1 z2)).trans (va_up_ne _ _ (apB_x gB sml_x z1 z2)))
    have hm4 := ctX4_undo (l := l) (D := D) (T := T) (A := A) (J := J) gM' a1 gG.1
    have e4 : fX4_undo (hm_put I x 3 (nI n)) b (n + 1) = (nI n, (lp 428 (fun i22 x22 => hm_put x22 (b + 1) i22 (x22 (b + 2) (428 * n + i22))) (hm_put (hm_put I x 3 (nI n)) b 2 (nI n)))) := by
      unfold fX4_undo
      rw [if_neg (by omega), Nat.add_sub_cancel]
    rw [e4] at hm4
    dsimp only at hm4
    have hcp := lp_copy0 (b + 1) (b + 2) (fun i => 428 * n + i) (by omega) 428 (hm_put (hm_put I x 3 (nI n)) b 2 (nI n))
    have oI : ∀ z kk, (z < b ∨ b + 9 ≤ z) → z ≠ x → lp 428 (fun i22 x22 => hm_put x22 (b + 1) i22 (x22 (b + 2) (428 * n + i22))) (hm_put (hm_put I x 3 (nI n)) b 2 (nI n)) z kk = I z kk := fun z kk z1 z2 => by rw [hcp.1 z kk (by omega), hp_n (Or.inl (by omega)), e1 z kk z2]
    have nb : ∀ a, sml x h m k j a → (a < b ∨ b + 9 ≤ a) := fun a ha => by
      rcases Nat.lt_or_ge a b with hz | hz
      · exact Or.inl hz
      · rcases Nat.lt_or_ge a (b + 9) with hz2 | hz2
        · exact absurd rfl (apB_x gB ha hz hz2)
        · exact Or.inr hz2
    have oq : ∀ q, outq x q → (∀ z, b ≤ z → z < b + 9 → outq z q) → ∀ z kk, q ≤ z → z < q + 83 → lp 428 (fun i22 x22 => hm_put x22 (b + 1) i22 (x22 (b + 2) (428 * n + i22))) (hm_put (hm_put I x 3 (nI n)) b 2 (nI n)) z kk = I z kk := fun q q1 q2 z kk z1 z2 => oI z kk (by
      rcases Nat.lt_or_ge z b with hz | hz
      · exact Or.inl hz
      · rcases Nat.lt_or_ge z (b + 9) with hz2 | hz2
        · have := q2 z hz hz2
          unfold outq at this
          omega
        · exact Or.inr hz2) (outq_ne q1 z1 z2)
    refine ⟨.int (nI n), _, _, J, _, J, ⟨_, rfl⟩, CtR.mk hx3 (by decide) (by decide) rfl, CtR.mk hm4 (by decide) (by decide) rfl, hs n, f, h, m, k, j, va_up hs n p, im, n, P n, P, Q, kp, IsX_undo gX gA hn8, ApX_undo gA hn8, gM', fun z z1 z2 => ?_, ⟨by omega, Good_mono (gG.2.2.1 n (Nat.lt_succ_self n)) (Nat.le_succ t), fun i hi => Good_mono (gG.2.2.1 i (by omega)) (Nat.le_succ t), fun i hi hk => Good_mono (gG.2.2.2 i hi hk) (Nat.le_succ t)⟩, ⟨?_, ?_, fun i hi => ?_, fun i hi => ?_⟩, ⟨?_, fun kk hk => ?_, fun i hi kk hk => ?_, ⟨u, u1, ?_, u3⟩, fun i hi hk kk hk2 => ?_⟩, gF⟩
    · obtain ⟨b1, b2, b3, b4, b5⟩ := gB z z1 z2
      refine ⟨b1, b4 n hn8, b3, fun i hi => ?_, b5⟩
      by_cases e : i = n
      · rw [e, va_up_self]; exact b2
      · rw [va_up_ne hs p e]; exact b4 i hi
    · rw [hcp.1 _ _ (by have := nb x sml_x; omega), hp_n (Or.inl (by have := nb x sml_x; omega))]
      exact hm_put_at _ _ _ _
    · exact Rel_frame (good_ep (gG.2.2.1 n (Nat.lt_succ_self n))) (oq _ (ox.2.2.1 n hn8) (fun z z1 z2 => (gB z z1 z2).2.2.2.1 n hn8)) (gx.2.2.1 n (Nat.lt_succ_self n))
    · rw [va_up_ne hs p (by omega)]
      exact Rel_frame (good_ep (gG.2.2.1 i (by omega))) (oq _ (ox.2.2.1 i (by omega)) (fun z z1 z2 => (gB z z1 z2).2.2.2.1 i (by omega))) (gx.2.2.1 i (by omega))
    · rw [oI k i (nb k sml_k) hkx]
      refine ⟨fun hk => ⟨((gx.2.2.2 i hi).1 hk).1, Rel_frame (good_ep (gG.2.2.2 i hi hk)) (oq _ (ox.2.2.2 i hi) (fun z z1 z2 => (gB z z1 z2).2.2.2.2 i hi)) ((gx.2.2.2 i hi).1 hk).2⟩, (gx.2.2.2 i hi).2⟩
    · rw [hcp.1 _ _ (by omega), hm_put_at]
    · rw [hcp.2 kk, if_pos hk, hp_n (Or.inl (by omega))]
      exact a3 n (Nat.lt_succ_self n) kk hk
    · rw [hcp.1 _ _ (by omega), hp_n (Or.inl (by omega))]; exact a3 i (by omega) kk hk
    · rw [hcp.1 _ _ (by omega), hp_n (Or.inr (by omega))]; exact u2
    · rw [hcp.1 _ _ (by omega), hp_n (Or.inl (by omega))]; exact a5 i hi hk kk hk2
/-! keep -/
theorem op_keep (a0 : Int32) : Op yX3_keep wsX3_keep yX4_keep wsX4_keep [.int a0] isI := by
  intro l D T L A x b t Sh I J ht hI
  obtain ⟨p, f, h, m, k, j, hs, im, n, w, P, Q, kp, g⟩ := hI
  have gs := Inv_s g
  have hWs := c_wfs g
  have g0 := g
  obtain ⟨gX, gA, gM, gB, gG, gx, gm, gF⟩ := g
  rcases bool_cases (fX4_isIn a0 (nI 0) (nI 1)) with hc | hc
  · exact ⟨.int (-1), Sh, I, J, I, J, ⟨_, rfl⟩, CtR.mk (ctX3_keep_b gX hc) (by decide) (by decide) rfl, CtR.mk (ctX4_keep_b gM hc) (by decide) (by decide) rfl, gs⟩
  · obtain ⟨i0, -, hi1, ea⟩ := (within_iff (by decide) (by decide)).mp hc
    subst ea
    have hi0 : i0 < 2 := by omega
    have ox := gA.2.1 x sml_x
    have ok := gA.2.1 k sml_k
    have hkx : k ≠ x := fun q => gA.1.2.2.1 q.symm
    have hec : epM w + 1 ≤ 10 := by have := good_ep gG.2.1; omega
    have eC : ∀ z kk, outq z (im i0) → fX2_copyFrom I (im i0) p (cM w) (epM w + 1) (lgM w) z kk = I z kk := fun z kk hz => congrFun (fX2_copyFrom_ne hec hz) kk
    have hC := cpS_rel (far_symm (gA.2.2.2.2.1 i0 hi0)) gG.2.1.1 (Agr_rf w) gx.2.1
    have hx3 := ctX3_keep_t (l := l) (D := D) (T := T) (L := L) (A := A) (Sh := Sh) (J := J) gX gA hWs hi0 hc
    have e1 : ∀ z kk, outq z (im i0) → z ≠ k → (fX3_keep_t I p k i0 im (cM w) (epM w + 1) (lgM w)).2 z kk = I z kk := fun z kk z1 z2 => by
      show hm_put _ k i0 (nI 1) z kk = _
      rw [hp_n (Or.inl z2), eC z kk z1]
    have gm1 : GM (fX3_keep_t I p k i0 im (cM w) (epM w + 1) (lgM w)).2 b n w P Q kp := GM_same gm (fun z kk z1 z2 => e1 z kk ((gB z z1 z2).2.2.2.2 i0 hi0) (apB_x gB sml_k z1 z2))
    have gx1 : GX (fX3_keep_t I p k i0 im (cM w) (epM w + 1) (lgM w)).2 x p k hs im n w P (fun i => if i = i0 then w else Q i) (fun i => if i = i0 then true else kp i) := by
      obtain ⟨s1, s2, s3, s4⟩ := gx
      have kf : ∀ q, outq k q → far q (im i0) → ∀ z kk, q ≤ z → z < q + 83 → (fX3_keep_t I p k i0 im (cM w) (epM w + 1) (lgM w)).2 z kk = I z kk := fun q q1 q2 z kk z1 z2 => e1 z kk (far_out q2 z1 z2) (outq_ne q1 z1 z2)
      refine ⟨by rw [e1 _ _ (ox.2.2.2 i0 hi0) (fun q => hkx q.symm)]; exact s1, Rel_frame (good_ep gG.2.1) (kf p ok.1 (gA.2.2.2.2.1 i0 hi0)) s2, fun i hi => Rel_frame (good_ep (gG.2.2.1 i hi)) (kf _ (ok.2.2.1 i (by have := gG.1; omega)) (gA.2.2.2.2.2.2.2.1 i (by have := gG.1; omega) i0 hi0)) (s3 i hi), fun i hi => ?_⟩
      by_cases e : i = i0
      · simp only [if_pos e]
        refine ⟨fun _ => ⟨by rw [e]; exact hm_put_at _ _ _ _, ?_⟩, fun q => absurd q (by decide)⟩
        rw [e]
        exact Rel_frame (good_ep gG.2.1) (fun z kk z1 z2 => hp_n (Or.inl (outq_ne (ok.2.2.2 i0 hi0) z1 z2))) hC
      · simp only [if_neg e]
        have ek : (fX3_keep_t I p k i0 im (cM w) (epM w + 1) (lgM w)).2 k i = I k i := by
          show hm_put _ k i0 (nI 1) k i = _
          rw [hp_n (Or.inr e), eC k i (ok.2.2.2 i0 hi0)]
        have hff : far (im i) (im i0) := by
          have h01 := gA.2.2.2.2.2.2.2.2
          have : (i = 0 ∧ i0 = 1) ∨ (i = 1 ∧ i0 = 0) := by omega
          rcases this with ⟨z1, z2⟩ | ⟨z1, z2⟩
          · rw [z1, z2]; exact h01
          · rw [z1, z2]; exact far_symm h01
        rw [ek]
        exact ⟨fun hk => ⟨((s4 i hi).1 hk).1, Rel_frame (good_ep (gG.2.2.2 i hi hk)) (kf _ (ok.2.2.2 i hi) hff) ((s4 i hi).1 hk).2⟩, (s4 i hi).2⟩
    have hm4 := ctX4_keep_t (l := l) (D := D) (T := T) (A := A) (J := J) (I := (fX3_keep_t I p k i0 im (cM w) (epM w + 1) (lgM w)).2) gM hi0 hc
    generalize hZ : (fX3_keep_t I p k i0 im (cM w) (epM w + 1) (lgM w)).2 = Z at *
    have hcp := lp_copyg (b + 3) (b + 1) (428 * i0) (fun i => i) (by omega) 428 Z
    have e4 : fX4_keep_t Z b i0 = (fX4_waiting (hm_put (lp 428 (fun i x => hm_put x (b + 3) (428 * i0 + i) (x (b + 1) i)) Z) b 4 (((lp 428 (fun i x => hm_put x (b + 3) (428 * i0 + i) (x (b + 1) i)) Z) b 4) ||| ((nI 1) <<< ((nI i0) &&& 31)))) b, hm_put (lp 428 (fun i x => hm_put x (b + 3) (428 * i0 + i) (x (b + 1) i)) Z) b 4 (((lp 428 (fun i x => hm_put x (b + 3) (428 * i0 + i) (x (b + 1) i)) Z) b 4) ||| ((nI 1) <<< ((nI i0) &&& 31)))) := rfl
    rw [e4] at hm4
    dsimp only at hm4
    generalize hY : lp 428 (fun i x => hm_put x (b + 3) (428 * i0 + i) (x (b + 1) i)) Z = Y at *
    obtain ⟨a1, a2, a3, ⟨u, u1, u2, u3⟩, a5⟩ := gm1
    have hrow : RowIs (hm_put Y b 4 ((Y b 4) ||| ((nI 1) <<< ((nI i0) &&& 31)))) b w := fun kk hk => by
      rw [hp_n (Or.inl (by omega)), hcp.1 _ _ (by omega)]; exact a2 kk hk
    refine ⟨.int (fX3_keep_t I p k i0 im (cM w) (epM w + 1) (lgM w)).1, Sh, _, J, _, J, ⟨_, rfl⟩, CtR.mk hx3 (by decide) (by decide) rfl, CtR.mk hm4 (by decide) (by decide) ?_, p, f, h, m, k, j, hs, im, n, w, P, (fun i => if i = i0 then w else Q i), (fun i => if i = i0 then true else kp i), gX, gA, gM, gB, ?_, ?_, ⟨?_, hrow, fun i hi kk hk => ?_, ⟨u ||| 2 ^ i0, m_or u1 (pow_256 i0 (by omega)), ?_, fun i hi => ?_⟩, fun i hi hk kk hk2 => ?_⟩, gF⟩
    · have e5 : (fX3_keep_t I p k i0 im (cM w) (epM w + 1) (lgM w)).1 = fX2_waitingCount (cM w) := rfl
      show some (Value.int _) = some (Value.int _)
      rw [e5, wait_X, wait_M gG.2.1.1 hrow]
    · refine ⟨gG.1, Good_mono gG.2.1 (Nat.le_succ t), fun i hi => Good_mono (gG.2.2.1 i hi) (Nat.le_succ t), fun i hi hk => ?_⟩
      by_cases e : i = i0
      · simp only [if_pos e]; exact Good_mono gG.2.1 (Nat.le_succ t)
      · simp only [if_neg e] at hk ⊢; exact Good_mono (gG.2.2.2 i hi hk) (Nat.le_succ t)
    · have fo : ∀ z kk, (z < b ∨ b + 9 ≤ z) → hm_put Y b 4 ((Y b 4) ||| ((nI 1) <<< ((nI i0) &&& 31))) z kk = Z z kk := fun z kk hz => by rw [hp_n (Or.inl (by omega)), hcp.1 _ _ (by omega)]
      have nb : ∀ a, sml x h m k j a → (a < b ∨ b + 9 ≤ a) := fun a ha => by
        rcases Nat.lt_or_ge a b with hz | hz
        · exact Or.inl hz
        · rcases Nat.lt_or_ge a (b + 9) with hz2 | hz2
          · exact absurd rfl (apB_x gB ha hz hz2)
          · exact Or.inr hz2
      have oq : ∀ q, (∀ z, b ≤ z → z < b + 9 → outq z q) → ∀ z kk, q ≤ z → z < q + 83 → hm_put Y b 4 ((Y b 4) ||| ((nI 1) <<< ((nI i0) &&& 31))) z kk = Z z kk := fun q q2 z kk z1 z2 => fo z kk (by
        rcases Nat.lt_or_ge z b with hz | hz
        · exact Or.inl hz
        · rcases Nat.lt_or_ge z (b + 9) with hz2 | hz2
          · have := q2 z hz hz2
            unfold outq at this
            omega
          · exact Or.inr hz2)
      have gG' : GG t n w P (fun i => if i = i0 then w else Q i) (fun i => if i = i0 then true else kp i) := ⟨gG.1, gG.2.1, gG.2.2.1, fun i hi hk => by
        by_cases e : i = i0
        · simp only [if_pos e]; exact gG.2.1
        · simp only [if_neg e] at hk ⊢; exact gG.2.2.2 i hi hk⟩
      exact GX_frame gG' gx1 (fun kk => fo x kk (nb x sml_x)) (fun kk => fo k kk (nb k sml_k)) (oq p (fun z z1 z2 => (gB z z1 z2).2.1)) (fun i hi => oq _ (fun z z1 z2 => (gB z z1 z2).2.2.2.1 i hi)) (fun i hi => oq _ (fun z z1 z2 => (gB z z1 z2).2.2.2.2 i hi))
    · show hm_put Y b 4 _ b 2 = _
      rw [hp_n (Or.inr (by omega)), hcp.1 _ _ (by omega)]; exact a1
    · show hm_put Y b 4 _ (b + 2) _ = _
      rw [hp_n (Or.inl (by omega)), hcp.1 _ _ (by omega)]; exact a3 i hi kk hk
    · show hm_put Y b 4 _ b 4 = _
      rw [hm_put_at, hcp.1 _ _ (by omega), u2, fb_shl i0 (by omega), fa_or]
    · rw [Nat.testBit_or, u3 i hi, tb_pow i0 (by omega) i (by omega)]
      by_cases e : i = i0
      · simp only [if_pos e]
        rw [decide_eq_true e.symm, Bool.or_true]
      · simp only [if_neg e]
        rw [decide_eq_false (fun q => e q.symm), Bool.or_false]
    · show hm_put Y b 4 _ (b + 3) _ = _
      rw [hp_n (Or.inl (by omega)), hcp.2]
      by_cases e : i = i0
      · simp only [if_pos e]
        rw [e, if_pos (by omega), Nat.add_sub_cancel_left]
        exact a2 kk hk2
      · simp only [if_neg e] at hk ⊢
        rw [if_neg (by omega)]
        exact a5 i hi hk kk hk2
/-! back -/
theorem op_back (a0 : Int32) : Op yX3_back wsX3_back yX4_back wsX4_back [.int a0] isI := by
  intro l D T L A x b t Sh I J ht hI
  obtain ⟨p, f, h, m, k, j, hs, im, n, w, P, Q, kp, g⟩ := hI
  have gs := Inv_s g
  have hWs := c_wfs g
  have g0 := g
  obtain ⟨gX, gA, gM, gB, gG, gx, gm, gF⟩ := g
  rcases bool_cases (fX4_isIn a0 (nI 0) (nI 1)) with hc | hc
  · exact ⟨.int (-1), Sh, I, J, I, J, ⟨_, rfl⟩, CtR.mk (ctX3_back_b gX hc) (by decide) (by decide) rfl, CtR.mk (ctX4_back_b gM hc) (by decide) (by decide) rfl, gs⟩
  · obtain ⟨i0, -, hi1, ea⟩ := (within_iff (by decide) (by decide)).mp hc
    subst ea
    have hi0 : i0 < 2 := by omega
    obtain ⟨u, u1, u2, u3⟩ := gm.2.2.2.1
    cases hk : kp i0
    · have hk0 : I k i0 = 0 := ((gx.2.2.2 i0 hi0).2 hk).trans nI_0
      have hm4 := ctX4_back_t (l := l) (D := D) (T := T) (A := A) (J := J) gM gm.1 gG.1 hi0 hc
      have e4 : fX4_back_t I b n i0 = ((-2), I) := by
        unfold fX4_back_t
        rw [u2, fb_has u u1 i0 (by omega), u3 i0 hi0, hk, if_neg (by decide)]
      rw [e4] at hm4
      dsimp only at hm4
      exact ⟨.int (-2), Sh, I, J, I, J, ⟨_, rfl⟩, CtR.mk (ctX3_back_s gX gA hWs gx.1 gG.1 hi0 hc hk0) (by decide) (by decide) rfl, CtR.mk hm4 (by decide) (by decide) rfl, gs⟩
    · have hk0 : ¬ I k i0 = 0 := by rw [((gx.2.2.2 i0 hi0).1 hk).1]; decide
      have hGq := gG.2.2.2 i0 hi0 hk
      have hR := (GX_rec gA (Agr_rf w) gG gx).2.2.2 i0 hi0
      have hRq := (hR.1 hk).2
      have hfar := gA.2.2.2.2.1 i0 hi0
      have hC := cpS_rel hfar hGq.1 (Agr_rf (Q i0)) hRq
      have hW2 := wfs_rel hGq.1 hRq
      have hW3 := wfs_rel hGq.1 hC
      have hx3 := ctX3_back_t (l := l) (D := D) (T := T) (L := L) (A := A) (Sh := Sh) (J := J) gX gA hWs gx.1 gG.1 hi0 hc hk0 hW2 hW3
      have h1 : ∀ z kk, outq z p → (fX3_back_t I x p n hs (cM w) (epM w + 1) (lgM w) im i0 (cM (Q i0)) (epM (Q i0) + 1) (lgM (Q i0))).2 z kk = recR I x p n hs w z kk := fun z kk hz => cpS_frame hfar (by have := good_ep hGq; omega) hz
      have hr : Rel (fX3_back_t I x p n hs (cM w) (epM w + 1) (lgM w) im i0 (cM (Q i0)) (epM (Q i0) + 1) (lgM (Q i0))).2 p (Q i0) := hC
      obtain ⟨c1, c2, c3⟩ := c_pre g0 h1
      have hm4 := ctX4_back_t (l := l) (D := D) (T := T) (A := A) (J := J) (IsM_rec (n := n) gM gB) c1 gG.1 hi0 hc
      have gB3 : ∀ z kk, b ≤ z → z < b + 9 → (fX3_back_t I x p n hs (cM w) (epM w + 1) (lgM w) im i0 (cM (Q i0)) (epM (Q i0) + 1) (lgM (Q i0))).2 z kk = I z kk := fun z kk z1 z2 => by rw [h1 z kk (gB z z1 z2).2.1]; exact rec_b gB gG.2.1 z kk z1 z2
      generalize hZ : (fX3_back_t I x p n hs (cM w) (epM w + 1) (lgM w) im i0 (cM (Q i0)) (epM (Q i0) + 1) (lgM (Q i0))).2 = Z at *
      have e4 : fX4_back_t Z b n i0 = (fX4_waiting (lp 428 (fun i29 x29 => hm_put x29 (b + 1) i29 (x29 (b + 3) (428 * i0 + i29))) (fX4_remember Z b n)) b, (lp 428 (fun i29 x29 => hm_put x29 (b + 1) i29 (x29 (b + 3) (428 * i0 + i29))) (fX4_remember Z b n))) := by
        unfold fX4_back_t
        rw [c3, u2, fb_has u u1 i0 (by omega), u3 i0 hi0, hk, if_pos rfl]
      rw [e4] at hm4
      dsimp only at hm4
      have hcp := lp_copy0 (b + 1) (b + 3) (fun i => 428 * i0 + i) (by omega) 428 (fX4_remember Z b n)
      obtain ⟨rs1, -⟩ := rem_spec (I := Z) (b := b) gG.1
      have hrow : RowIs (lp 428 (fun i29 x29 => hm_put x29 (b + 1) i29 (x29 (b + 3) (428 * i0 + i29))) (fX4_remember Z b n)) b (Q i0) := fun kk hkk => by
        rw [hcp.2 kk, if_pos hkk, rs1 _ _ (by omega) (by omega), gB3 _ _ (by omega) (by omega)]
        exact gm.2.2.2.2 i0 hi0 hk kk hkk
      refine ⟨.int (fX3_back_t I x p n hs (cM w) (epM w + 1) (lgM w) im i0 (cM (Q i0)) (epM (Q i0) + 1) (lgM (Q i0))).1, recSh Sh h hs n, _, J, _, J, ⟨_, rfl⟩, CtR.mk hx3 (by decide) (by decide) rfl, CtR.mk hm4 (by decide) (by decide) ?_, close_c g0 (Agr_rf w) h1 hr (Good_mono hGq (Nat.le_succ t)) (fun _ _ _ => rfl) (fun z kk z1 z2 => hcp.1 z kk z1) hrow⟩
      have e5 : (fX3_back_t I x p n hs (cM w) (epM w + 1) (lgM w) im i0 (cM (Q i0)) (epM (Q i0) + 1) (lgM (Q i0))).1 = fX2_waitingCount (cM (Q i0)) := rfl
      show some (Value.int _) = some (Value.int _)
      rw [e5, wait_X, wait_M hGq.1 hrow]
