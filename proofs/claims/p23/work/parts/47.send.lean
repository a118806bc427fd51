/-! part 47: send, sendSome, undo, keep, back -/
/-! part 47: send, sendSome, undo, keep, back -/
theorem sum8 (f : Nat → Nat) : lp 8 (fun i x => x + nI (f i)) (nI 0) = nI (f 0 + f 1 + f 2 + f 3 + f 4 + f 5 + f 6 + f 7) := by
  show nI 0 + nI (f 0) + nI (f 1) + nI (f 2) + nI (f 3) + nI (f 4) + nI (f 5) + nI (f 6) + nI (f 7) = _
  simp only [nI_add, Nat.zero_add]
theorem wait_X (w : Nat → Int32) : fX2_waitingCount (cM w) = nI (totN w) := sum8 (cM w)
def cSend (w : Nat → Int32) : Int32 × Option (Nat → Int32) := if totN w = 0 then (-2, none) else (w (32 + 18 * nxtN w), some (stp w))
theorem op_send {n t : Nat} {w : Nat → Int32} {P Q : Nat → Nat → Int32} {kp : Nat → Bool} : OpX yX3_send wsX3_send [] t (t + 1) (n, w, P, Q, kp) (.int (cSend w).1) (nxS (n, w, P, Q, kp) (cSend w).2) := by
  intro l D T L A x Sh I J hI
  have gs := InvX_up hI
  obtain ⟨p, f, h, m, k, j, hs, im, g⟩ := hI
  change GIx L Sh I x p f h m k j hs im n w P Q kp t at g
  have hWs := c_wfsx g
  have hRel := c_relx g
  have g0 := g
  obtain ⟨gX, gA, gG, gx, gF⟩ := g
  have hr := gx.2.1
  have hnx := next_X gG.2.1 (Agr_rf w) hr.1 hr.2.1 hr.2.2.1
  unfold cSend
  by_cases h0 : totN w = 0
  · rw [if_pos h0]
    rw [nxt_none (tot_0 h0)] at hnx
    exact ⟨Sh, I, J, CtR.mk (ctX3_send_n gX gA hWs gx.1 gG.1 hnx) (by decide) (by decide) rfl, gs⟩
  · rw [if_neg h0]
    obtain ⟨k1, k2, k3, k4⟩ := stp_ok gG.2.1 (by omega)
    rw [enc_lt k1] at hnx
    obtain ⟨q1, q2⟩ := send_X gG.2.1 (Agr_rf w) hRel k1 k2
    have h1 : ∀ z kk, outq z p → (fX3_send_t I x p n hs (cM w) (epM w + 1) (lgM w) (nxtN w)).2 z kk = recR I x p n hs w z kk := fun z kk hz => q2 z kk hz
    refine ⟨recSh Sh h hs n, _, J, CtR.mk (ctX3_send_t gX gA hWs gx.1 gG.1 k1 k2 hnx) (by decide) (by decide) ?_, p, f, h, m, k, j, recH hs n, im, close_cx g0 (Agr_rf w) h1 q1 (Good_mono k3 (Nat.le_succ t))⟩
    have e1 : (fX3_send_t I x p n hs (cM w) (epM w + 1) (lgM w) (nxtN w)).1 = recR I x p n hs w ((p + 4 + 5 * nxtN w) + 1) 0 := rfl
    show some (Value.int _) = some (Value.int _)
    rw [e1, (hRel.2.1.2 _ k1 0 k2).1]
    rfl
/-- how many frames a budget sends -/
noncomputable def smN (w : Nat → Int32) (bd t : Nat) : Nat := Classical.epsilon (fun m => someOk w 0 bd t m)
theorem smN_ok {w : Nat → Int32} {t : Nat} (bd : Nat) (hG : Good w t) : someOk w 0 bd t (smN w bd t) := Classical.epsilon_spec (ex_some (bd := bd) (totN w) w 0 rfl hG (Nat.zero_le bd))
noncomputable def cSome (w : Nat → Int32) (t : Nat) (a0 : Int32) : Int32 × Option (Nat → Int32) := if fX4_isIn a0 (nI 0) (nI 999) = true then (nI (smN w a0.toNatClampNeg t), some (itC w 0 (smN w a0.toNatClampNeg t)).1) else (-1, none)
theorem op_sendSome (a0 : Int32) {n t : Nat} {w : Nat → Int32} {P Q : Nat → Nat → Int32} {kp : Nat → Bool} : OpX yX3_sendSome wsX3_sendSome [.int a0] t (t + 1) (n, w, P, Q, kp) (.int (cSome w t a0).1) (nxS (n, w, P, Q, kp) (cSome w t a0).2) := by
  intro l D T L A x Sh I J hI
  have gs := InvX_up hI
  obtain ⟨p, f, h, m, k, j, hs, im, g⟩ := hI
  change GIx L Sh I x p f h m k j hs im n w P Q kp t at g
  have hWs := c_wfsx g
  have hRel := c_relx g
  have g0 := g
  obtain ⟨gX, gA, gG, gx, gF⟩ := g
  unfold cSome
  rcases bool_cases (fX4_isIn a0 (nI 0) (nI 999)) with hc | hc
  · rw [if_neg (by rw [hc]; decide)]
    exact ⟨Sh, I, J, CtR.mk (ctX3_sendSome_b gX hc) (by decide) (by decide) rfl, gs⟩
  · rw [if_pos hc]
    obtain ⟨bd, -, hbd, ea⟩ := (within_iff (by decide) (by decide)).mp hc
    subst ea
    rw [nI_clamp (show bd < 2 ^ 31 by omega)]
    have hS := smN_ok bd gG.2.1
    generalize smN w bd t = mm at hS ⊢
    obtain ⟨x1, x2, x3, x4, x5⟩ := some_X hRel gG.2.1 hbd hS
    have h1 : ∀ z kk, outq z p → (fX3_sendSome_tA I x p n hs (cM w) (epM w + 1) (lgM w) mm (nI bd)).2 z kk = recR I x p n hs w z kk := fun z kk hz => x5 z kk hz
    have hr1 : Rel (fX3_sendSome_tA I x p n hs (cM w) (epM w + 1) (lgM w) mm (nI bd)).2 p (itC w 0 mm).1 := x4
    have hGm := (hS.1 mm (Nat.le_refl mm)).1
    have cl := close_cx g0 (Agr_rf w) h1 hr1 (Good_mono hGm (Nat.le_succ t))
    have htot := hS.1 mm (Nat.le_refl mm)
    have htl := tot_le gG.2.1.1
    rcases hS.2.2 with hz | ⟨hz1, hz2⟩
    · rcases Nat.lt_or_ge mm 48 with q | q
      · exact ⟨recSh Sh h hs n, _, J, CtR.mk (ctX3_sendSome_tA gX gA hWs gx.1 gG.1 hc x1 (x2 hz q)) (by decide) (by decide) rfl, p, f, h, m, k, j, recH hs n, im, cl⟩
      · exact ⟨recSh Sh h hs n, _, J, CtR.mk (ctX3_sendSome_tC gX gA hWs gx.1 gG.1 hc x1 (show mm = 48 by omega)) (by decide) (by decide) rfl, p, f, h, m, k, j, recH hs n, im, cl⟩
    · exact ⟨recSh Sh h hs n, _, J, CtR.mk (ctX3_sendSome_tB gX gA hWs gx.1 gG.1 hc x1 (x3 hz1 hz2)) (by decide) (by decide) rfl, p, f, h, m, k, j, recH hs n, im, cl⟩
/-! undo -/
def cUndo (S : abS) : Int32 × abS := if S.1 = 0 then (-2, S) else (nI (S.1 - 1), (S.1 - 1, S.2.2.1 (S.1 - 1), S.2.2.1, S.2.2.2.1, S.2.2.2.2))
theorem op_undo {n t : Nat} {w : Nat → Int32} {P Q : Nat → Nat → Int32} {kp : Nat → Bool} : OpX yX3_undo wsX3_undo [] t (t + 1) (n, w, P, Q, kp) (.int (cUndo (n, w, P, Q, kp)).1) (cUndo (n, w, P, Q, kp)).2 := by
  intro l D T L A x Sh I J hI
  have gs := InvX_up hI
  obtain ⟨p, f, h, m, k, j, hs, im, g⟩ := hI
  change GIx L Sh I x p f h m k j hs im n w P Q kp t at g
  have g0 := g
  obtain ⟨gX, gA, gG, gx, gF⟩ := g
  cases n with
  | zero => exact ⟨Sh, I, J, CtR.mk (ctX3_undo_0 gX gA gx.1) (by decide) (by decide) rfl, gs⟩
  | succ n =>
    have hn8 : n < 8 := by have := gG.1; omega
    have hx3 := ctX3_undo_t (l := l) (D := D) (T := T) (L := L) (A := A) (Sh := Sh) (J := J) gX gA gx.1 hn8
    have ox := gA.2.1 x sml_x
    have hkx : k ≠ x := fun q => gA.1.2.2.1 q.symm
    have e1 : ∀ z kk, z ≠ x → hm_put I x 3 (nI n) z kk = I z kk := fun z kk hz => hp_n (Or.inl hz)
    have oq : ∀ q, outq x q → ∀ z kk, q ≤ z → z < q + 83 → hm_put I x 3 (nI n) z kk = I z kk := fun q q1 z kk z1 z2 => e1 z kk (outq_ne q1 z1 z2)
    have gg : GIx L (va_up (va_up Sh x (kO 3 [some (some (hs n)), some (some f), some (some h), none, some (some m), some (some k), some (some j)])) h (kR 2 8 (va_up (fun i => some (hs i)) n (some p)))) (hm_put I x 3 (nI n)) x (hs n) f h m k j (va_up hs n p) im n (P n) P Q kp (t + 1) := by
      refine ⟨IsX_undo gX gA hn8, ApX_undo gA hn8, ⟨by omega, Good_mono (gG.2.2.1 n (Nat.lt_succ_self n)) (Nat.le_succ t), fun i hi => Good_mono (gG.2.2.1 i (by omega)) (Nat.le_succ t), fun i hi hk => Good_mono (gG.2.2.2 i hi hk) (Nat.le_succ t)⟩, ⟨hm_put_at _ _ _ _, ?_, fun i hi => ?_, fun i hi => ?_⟩, gF⟩
      · exact Rel_frame (good_ep (gG.2.2.1 n (Nat.lt_succ_self n))) (oq _ (ox.2.2.1 n hn8)) (gx.2.2.1 n (Nat.lt_succ_self n))
      · rw [va_up_ne hs p (by omega)]
        exact Rel_frame (good_ep (gG.2.2.1 i (by omega))) (oq _ (ox.2.2.1 i (by omega))) (gx.2.2.1 i (by omega))
      · rw [e1 k i hkx]
        refine ⟨fun hk => ⟨((gx.2.2.2 i hi).1 hk).1, Rel_frame (good_ep (gG.2.2.2 i hi hk)) (oq _ (ox.2.2.2 i hi)) ((gx.2.2.2 i hi).1 hk).2⟩, (gx.2.2.2 i hi).2⟩
    exact ⟨_, _, J, CtR.mk hx3 (by decide) (by decide) rfl, hs n, f, h, m, k, j, va_up hs n p, im, gg⟩
/-! keep -/
def cKeep (S : abS) (a0 : Int32) : Int32 × abS := if fX4_isIn a0 (nI 0) (nI 1) = true then (nI (totN S.2.1), (S.1, S.2.1, S.2.2.1, (fun i => if i = a0.toNatClampNeg then S.2.1 else S.2.2.2.1 i), (fun i => if i = a0.toNatClampNeg then true else S.2.2.2.2 i))) else (-1, S)
theorem op_keep (a0 : Int32) {n t : Nat} {w : Nat → Int32} {P Q : Nat → Nat → Int32} {kp : Nat → Bool} : OpX yX3_keep wsX3_keep [.int a0] t (t + 1) (n, w, P, Q, kp) (.int (cKeep (n, w, P, Q, kp) a0).1) (cKeep (n, w, P, Q, kp) a0).2 := by
  intro l D T L A x Sh I J hI
  have gs := InvX_up hI
  obtain ⟨p, f, h, m, k, j, hs, im, g⟩ := hI
  change GIx L Sh I x p f h m k j hs im n w P Q kp t at g
  have hWs := c_wfsx g
  have hRel := c_relx g
  have g0 := g
  obtain ⟨gX, gA, gG, gx, gF⟩ := g
  unfold cKeep
  rcases bool_cases (fX4_isIn a0 (nI 0) (nI 1)) with hc | hc
  · rw [if_neg (by rw [hc]; decide)]
    exact ⟨Sh, I, J, CtR.mk (ctX3_keep_b gX hc) (by decide) (by decide) rfl, gs⟩
  · rw [if_pos hc]
    obtain ⟨i0, -, hi1, ea⟩ := (within_iff (by decide) (by decide)).mp hc
    subst ea
    rw [nI_clamp (show i0 < 2 ^ 31 by omega)]
    dsimp only
    have hi0 : i0 < 2 := by omega
    have ox := gA.2.1 x sml_x
    have ok := gA.2.1 k sml_k
    have hkx : k ≠ x := fun q => gA.1.2.2.1 q.symm
    have hec : epM w + 1 ≤ 10 := by have := good_ep gG.2.1; omega
    have eC : ∀ z kk, outq z (im i0) → fX2_copyFrom I (im i0) p (cM w) (epM w + 1) (lgM w) z kk = I z kk := fun z kk hz => congrFun (fX2_copyFrom_ne hec hz) kk
    have hC := cpS_rel (far_symm (gA.2.2.2.2.1 i0 hi0)) gG.2.1.1 (Agr_rf w) gx.2.1
    have hx3 := ctX3_keep_t (l := l) (D := D) (T := T) (L := L) (A := A) (Sh := Sh) (J := J) gX gA hWs hi0 hc
    have e1 : ∀ z kk, outq z (im i0) → z ≠ k → (fX3_keep_t I p k i0 im (cM w) (epM w + 1) (lgM w)).2 z kk = I z kk := fun z kk z1 z2 => by
      show hm_put _ k i0 (nI 1) z kk = _
      rw [hp_n (Or.inl z2), eC z kk z1]
    have gx1 : GX (fX3_keep_t I p k i0 im (cM w) (epM w + 1) (lgM w)).2 x p k hs im n w P (fun i => if i = i0 then w else Q i) (fun i => if i = i0 then true else kp i) := by
      obtain ⟨s1, s2, s3, s4⟩ := gx
      have kf : ∀ q, outq k q → far q (im i0) → ∀ z kk, q ≤ z → z < q + 83 → (fX3_keep_t I p k i0 im (cM w) (epM w + 1) (lgM w)).2 z kk = I z kk := fun q q1 q2 z kk z1 z2 => e1 z kk (far_out q2 z1 z2) (outq_ne q1 z1 z2)
      refine ⟨by rw [e1 _ _ (ox.2.2.2 i0 hi0) (fun q => hkx q.symm)]; exact s1, Rel_frame (good_ep gG.2.1) (kf p ok.1 (gA.2.2.2.2.1 i0 hi0)) s2, fun i hi => Rel_frame (good_ep (gG.2.2.1 i hi)) (kf _ (ok.2.2.1 i (by have := gG.1; omega)) (gA.2.2.2.2.2.2.2.1 i (by have := gG.1; omega) i0 hi0)) (s3 i hi), fun i hi => ?_⟩
      by_cases e : i = i0
      · simp only [if_pos e]
        refine ⟨fun _ => ⟨by rw [e]; exact hm_put_at _ _ _ _, ?_⟩, fun q => absurd q (by decide)⟩
        rw [e]
        exact Rel_frame (good_ep gG.2.1) (fun z kk z1 z2 => hp_n (Or.inl (outq_ne (ok.2.2.2 i0 hi0) z1 z2))) hC
      · simp only [if_neg e]
        have ek : (fX3_keep_t I p k i0 im (cM w) (epM w + 1) (lgM w)).2 k i = I k i := by
          show hm_put _ k i0 (nI 1) k i = _
          rw [hp_n (Or.inr e), eC k i (ok.2.2.2 i0 hi0)]
        have hff : far (im i) (im i0) := by
          have h01 := gA.2.2.2.2.2.2.2.2
          have : (i = 0 ∧ i0 = 1) ∨ (i = 1 ∧ i0 = 0) := by omega
          rcases this with ⟨z1, z2⟩ | ⟨z1, z2⟩
          · rw [z1, z2]; exact h01
          · rw [z1, z2]; exact far_symm h01
        rw [ek]
        exact ⟨fun hk => ⟨((s4 i hi).1 hk).1, Rel_frame (good_ep (gG.2.2.2 i hi hk)) (kf _ (ok.2.2.2 i hi) hff) ((s4 i hi).1 hk).2⟩, (s4 i hi).2⟩
    have gG' : GG (t + 1) n w P (fun i => if i = i0 then w else Q i) (fun i => if i = i0 then true else kp i) := ⟨gG.1, Good_mono gG.2.1 (Nat.le_succ t), fun i hi => Good_mono (gG.2.2.1 i hi) (Nat.le_succ t), fun i hi hk => by
      by_cases e : i = i0
      · simp only [if_pos e]; exact Good_mono gG.2.1 (Nat.le_succ t)
      · simp only [if_neg e] at hk ⊢; exact Good_mono (gG.2.2.2 i hi hk) (Nat.le_succ t)⟩
    refine ⟨Sh, _, J, CtR.mk hx3 (by decide) (by decide) ?_, p, f, h, m, k, j, hs, im, gX, gA, gG', gx1, gF⟩
    have e5 : (fX3_keep_t I p k i0 im (cM w) (epM w + 1) (lgM w)).1 = fX2_waitingCount (cM w) := rfl
    rw [e5, wait_X]
/-! back -/
def cBack (S : abS) (a0 : Int32) : Int32 × Option (Nat → Int32) := if fX4_isIn a0 (nI 0) (nI 1) = true then (if S.2.2.2.2 a0.toNatClampNeg = true then (nI (totN (S.2.2.2.1 a0.toNatClampNeg)), some (S.2.2.2.1 a0.toNatClampNeg)) else (-2, none)) else (-1, none)
theorem op_back (a0 : Int32) {n t : Nat} {w : Nat → Int32} {P Q : Nat → Nat → Int32} {kp : Nat → Bool} : OpX yX3_back wsX3_back [.int a0] t (t + 1) (n, w, P, Q, kp) (.int (cBack (n, w, P, Q, kp) a0).1) (nxS (n, w, P, Q, kp) (cBack (n, w, P, Q, kp) a0).2) := by
  intro l D T L A x Sh I J hI
  have gs := InvX_up hI
  obtain ⟨p, f, h, m, k, j, hs, im, g⟩ := hI
  change GIx L Sh I x p f h m k j hs im n w P Q kp t at g
  have hWs := c_wfsx g
  have hRel := c_relx g
  have g0 := g
  obtain ⟨gX, gA, gG, gx, gF⟩ := g
  unfold cBack
  rcases bool_cases (fX4_isIn a0 (nI 0) (nI 1)) with hc | hc
  · rw [if_neg (by rw [hc]; decide)]
    exact ⟨Sh, I, J, CtR.mk (ctX3_back_b gX hc) (by decide) (by decide) rfl, gs⟩
  · rw [if_pos hc]
    obtain ⟨i0, -, hi1, ea⟩ := (within_iff (by decide) (by decide)).mp hc
    subst ea
    rw [nI_clamp (show i0 < 2 ^ 31 by omega)]
    dsimp only
    have hi0 : i0 < 2 := by omega
    rcases bool_cases (kp i0) with hk | hk
    · rw [if_neg (by rw [hk]; decide)]
      have hk0 : I k i0 = 0 := ((gx.2.2.2 i0 hi0).2 hk).trans nI_0
      exact ⟨Sh, I, J, CtR.mk (ctX3_back_s gX gA hWs gx.1 gG.1 hi0 hc hk0) (by decide) (by decide) rfl, gs⟩
    · rw [if_pos hk]
      have hk0 : ¬ I k i0 = 0 := by rw [((gx.2.2.2 i0 hi0).1 hk).1]; decide
      have hGq := gG.2.2.2 i0 hi0 hk
      have hR := (GX_rec gA (Agr_rf w) gG gx).2.2.2 i0 hi0
      have hRq := (hR.1 hk).2
      have hfar := gA.2.2.2.2.1 i0 hi0
      have hC := cpS_rel hfar hGq.1 (Agr_rf (Q i0)) hRq
      have hW2 := wfs_rel hGq.1 hRq
      have hW3 := wfs_rel hGq.1 hC
      have hx3 := ctX3_back_t (l := l) (D := D) (T := T) (L := L) (A := A) (Sh := Sh) (J := J) gX gA hWs gx.1 gG.1 hi0 hc hk0 hW2 hW3
      have h1 : ∀ z kk, outq z p → (fX3_back_t I x p n hs (cM w) (epM w + 1) (lgM w) im i0 (cM (Q i0)) (epM (Q i0) + 1) (lgM (Q i0))).2 z kk = recR I x p n hs w z kk := fun z kk hz => cpS_frame hfar (by have := good_ep hGq; omega) hz
      have hr : Rel (fX3_back_t I x p n hs (cM w) (epM w + 1) (lgM w) im i0 (cM (Q i0)) (epM (Q i0) + 1) (lgM (Q i0))).2 p (Q i0) := hC
      refine ⟨recSh Sh h hs n, _, J, CtR.mk hx3 (by decide) (by decide) ?_, p, f, h, m, k, j, recH hs n, im, close_cx g0 (Agr_rf w) h1 hr (Good_mono hGq (Nat.le_succ t))⟩
      have e5 : (fX3_back_t I x p n hs (cM w) (epM w + 1) (lgM w) im i0 (cM (Q i0)) (epM (Q i0) + 1) (lgM (Q i0))).1 = fX2_waitingCount (cM (Q i0)) := rfl
      rw [e5, wait_X]
