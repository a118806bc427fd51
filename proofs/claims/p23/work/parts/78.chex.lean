/-! part 78: the extras stay true along a change -/
theorem cOpen_ex {w : Nat → Int32} {a0 c0 : Int32} (hE : Ex w) : ∀ w', (cOpen w a0 c0).2 = some w' → Ex w' := by
  intro w' h
  unfold cOpen at h
  by_cases hb : (fX4_isStream a0 && fX4_isIn c0 (nI 1) (nI 9)) = true
  · rw [if_pos hb] at h
    rw [Bool.and_eq_true] at hb
    obtain ⟨s, hs8, e⟩ := st_true hb.1
    obtain ⟨v, hv1, hv2, ev⟩ := (within_iff (by decide) (by decide)).mp hb.2
    subst e
    rw [nI_clamp (show s < 2 ^ 31 by omega)] at h
    by_cases ho : w s = nI 1
    · rw [if_pos ho] at h; exact absurd h (by simp)
    · rw [if_neg ho] at h
      have e := Option.some.inj h
      rw [← e, ev]
      exact Ex_open hs8 ⟨hv1, hv2⟩ hE
  · rw [if_neg hb] at h; exact absurd h (by simp)
theorem cClose_ex {w : Nat → Int32} {a0 : Int32} (hE : Ex w) : ∀ w', (cClose w a0).2 = some w' → Ex w' := by
  intro w' h
  unfold cClose at h
  by_cases hb : fX4_isStream a0 = true
  · rw [if_pos hb] at h
    obtain ⟨s, hs8, e⟩ := st_true hb
    subst e
    rw [nI_clamp (show s < 2 ^ 31 by omega)] at h
    by_cases ho : w s = nI 1 ∧ cM w s = 0
    · rw [if_pos ho] at h
      have e := Option.some.inj h
      rw [← e]
      exact Ex_close hs8 hE
    · rw [if_neg ho] at h; exact absurd h (by simp)
  · rw [if_neg hb] at h; exact absurd h (by simp)
theorem cSetW_ex {w : Nat → Int32} {a0 c0 : Int32} (hE : Ex w) : ∀ w', (cSetW w a0 c0).2 = some w' → Ex w' := by
  intro w' h
  unfold cSetW at h
  by_cases hb : (fX4_isStream a0 && fX4_isIn c0 (nI 1) (nI 9)) = true
  · rw [if_pos hb] at h
    rw [Bool.and_eq_true] at hb
    obtain ⟨s, hs8, e⟩ := st_true hb.1
    obtain ⟨v, hv1, hv2, ev⟩ := (within_iff (by decide) (by decide)).mp hb.2
    subst e
    rw [nI_clamp (show s < 2 ^ 31 by omega)] at h
    by_cases ho : w s = nI 1
    · rw [if_pos ho] at h
      have e := Option.some.inj h
      rw [← e, ev]
      exact Ex_setW hs8 ⟨hv1, hv2⟩ hE
    · rw [if_neg ho] at h; exact absurd h (by simp)
  · rw [if_neg hb] at h; exact absurd h (by simp)
theorem cPush_ex {w : Nat → Int32} {t : Nat} {a0 c0 : Int32} (ht : t < 1000) (hG : Good w t) (hE : Ex w) : ∀ w', (cPush w a0 c0).2 = some w' → Ex w' := by
  intro w' h
  unfold cPush at h
  by_cases hb : (fX4_isStream a0 && fX4_isIn c0 (nI 1) (nI 99)) = true
  · rw [if_pos hb] at h
    rw [Bool.and_eq_true] at hb
    obtain ⟨s, hs8, e⟩ := st_true hb.1
    subst e
    rw [nI_clamp (show s < 2 ^ 31 by omega)] at h
    have hc6 := cM_le hG.1 hs8
    by_cases ho : w s = nI 1
    · rw [if_pos ho] at h
      by_cases hc : cM w s = 6
      · rw [if_pos hc] at h; exact absurd h (by simp)
      · rw [if_neg hc] at h
        have e := Option.some.inj h
        rw [← e]
        exact Ex_push ht hG hs8 (by omega) hE
    · rw [if_neg ho] at h; exact absurd h (by simp)
  · rw [if_neg hb] at h; exact absurd h (by simp)
theorem cEdge_ex {w : Nat → Int32} {t : Nat} {a0 b0 c0 : Int32} (hG : Good w t) (hE : Ex w) : ∀ w', (cEdge w a0 b0 c0).2 = some w' → Ex w' := by
  intro w' h
  unfold cEdge at h
  by_cases hb : (fX3_areTwoStreams a0 b0 && fX4_isIn c0 (nI 0) (nI 1)) = true
  · rw [if_pos hb] at h
    rw [Bool.and_eq_true] at hb
    obtain ⟨i, i', hi, hi', hne, e1, e2, -⟩ : ∃ i j, i < 8 ∧ j < 8 ∧ i ≠ j ∧ a0 = nI i ∧ b0 = nI j ∧ fX3_areTwoStreams a0 b0 = true := by
      rcases two_cases a0 b0 with ⟨h1, -⟩ | h
      · rw [h1] at hb; exact absurd hb.1 (by decide)
      · exact h
    subst e1
    rw [nI_clamp (show i < 2 ^ 31 by omega)] at h
    have key : ∀ v, Ex (eW w i v) := fun v => Ex_o hG (fun k hk => eW_no (by omega)) hE
    by_cases h0 : c0 = nI 0
    · rw [if_pos h0] at h
      have e := Option.some.inj h
      rw [← e]; exact key _
    · rw [if_neg h0] at h
      by_cases hc : (clo (mk w 176) b0.toNatClampNeg).testBit i = true
      · rw [if_pos hc] at h; exact absurd h (by simp)
      · rw [if_neg hc] at h
        have e := Option.some.inj h
        rw [← e]; exact key _
  · rw [if_neg hb] at h; exact absurd h (by simp)
theorem cCommit_ex {w : Nat → Int32} {t : Nat} (hG : Good w t) (hE : Ex w) : ∀ w', (cCommit w).2 = some w' → Ex w' := by
  intro w' h
  have hep := good_ep hG
  unfold cCommit at h
  by_cases he : epM w = 9
  · rw [if_pos he] at h; exact absurd h (by simp)
  · rw [if_neg he] at h
    have e := Option.some.inj h
    rw [← e]
    exact Ex_o hG (fun k hk => mW_no (by omega) (by omega)) hE
theorem cRevert_ex {w : Nat → Int32} {t : Nat} {a0 : Int32} (hG : Good w t) (hE : Ex w) : ∀ w', (cRevert w a0).2 = some w' → Ex w' := by
  intro w' h
  unfold cRevert at h
  by_cases he : fX4_isIn a0 (nI 0) (nI (epM w)) = true
  · rw [if_pos he] at h
    have e := Option.some.inj h
    rw [← e]
    exact Ex_o hG (fun k hk => rW_no (by omega)) hE
  · rw [if_neg he] at h; exact absurd h (by simp)
theorem cSend_ex {w : Nat → Int32} {t : Nat} (hG : Good w t) (hE : Ex w) : ∀ w', (cSend w).2 = some w' → Ex w' := by
  intro w' h
  unfold cSend at h
  by_cases h0 : totN w = 0
  · rw [if_pos h0] at h; exact absurd h (by simp)
  · rw [if_neg h0] at h
    have e := Option.some.inj h
    rw [← e]
    exact Ex_stp hG (by omega) hE
theorem cSome_ex {w : Nat → Int32} {t : Nat} {a0 : Int32} (hG : Good w t) (hE : Ex w) : ∀ w', (cSome w t a0).2 = some w' → Ex w' := by
  intro w' h
  unfold cSome at h
  by_cases hc : fX4_isIn a0 (nI 0) (nI 999) = true
  · rw [if_pos hc] at h
    have e := Option.some.inj h
    rw [← e]
    exact Ex_some (smN_ok _ hG) hE
  · rw [if_neg hc] at h; exact absurd h (by simp)
theorem cBack_ex {S : abS} {a0 : Int32} (hE : ExS S) : ∀ w', (cBack S a0).2 = some w' → Ex w' := by
  intro w' h
  unfold cBack at h
  by_cases hc : fX4_isIn a0 (nI 0) (nI 1) = true
  · rw [if_pos hc] at h
    obtain ⟨i0, -, hi1, ea⟩ := (within_iff (by decide) (by decide)).mp hc
    subst ea
    rw [nI_clamp (show i0 < 2 ^ 31 by omega)] at h
    by_cases hk : S.2.2.2.2 i0 = true
    · rw [if_pos hk] at h
      have e := Option.some.inj h
      rw [← e]
      exact hE.2.2 i0 (by omega) hk
    · rw [if_neg hk] at h; exact absurd h (by simp)
  · rw [if_neg hc] at h; exact absurd h (by simp)
theorem cKeep_ex {S : abS} {a0 : Int32} (hE : ExS S) : ExS (cKeep S a0).2 := by
  unfold cKeep
  by_cases hc : fX4_isIn a0 (nI 0) (nI 1) = true
  · rw [if_pos hc]
    refine ⟨hE.1, hE.2.1, fun i hi hk => ?_⟩
    show Ex (if i = a0.toNatClampNeg then S.2.1 else S.2.2.2.1 i)
    have hk' : (if i = a0.toNatClampNeg then true else S.2.2.2.2 i) = true := hk
    by_cases e : i = a0.toNatClampNeg
    · rw [if_pos e]; exact hE.1
    · rw [if_neg e] at hk' ⊢; exact hE.2.2 i hi hk'
  · rw [if_neg hc]; exact hE
theorem cUndo_ex {S : abS} (hE : ExS S) : ExS (cUndo S).2 := by
  unfold cUndo
  by_cases h : S.1 = 0
  · rw [if_pos h]; exact hE
  · rw [if_neg h]
    exact ⟨hE.2.1 (S.1 - 1) (by omega), fun i hi => hE.2.1 i (by have hi' : i < S.1 - 1 := hi; omega), hE.2.2⟩
theorem prS_ex {S : abS} {r : Int32 × Option (Nat → Int32)} (hn : S.1 ≤ 8) (hE : ExS S) (h : ∀ w', r.2 = some w' → Ex w') : ExS (prS S r).2 := ExS_nx hn hE h
theorem chR_ex {n t : Nat} {w : Nat → Int32} {P Q : Nat → Nat → Int32} {kp : Nat → Bool} {v0 more : Int32} (ht : t < 1000) (hG : GG t n w P Q kp) (hE : ExS (n, w, P, Q, kp)) : ExS (chR t (n, w, P, Q, kp) v0 more).2 := by
  have hn : n ≤ 8 := hG.1
  have hg := hG.2.1
  have he : Ex w := hE.1
  have hk := lowN_lt v0 (show 0 < 20 by decide)
  unfold chR
  generalize lowN v0 20 = q at hk
  match q, hk with
  | 0, _ => exact prS_ex hn hE (cOpen_ex he)
  | 1, _ => exact prS_ex hn hE (cOpen_ex he)
  | 2, _ => exact prS_ex hn hE (cOpen_ex he)
  | 3, _ => exact prS_ex hn hE (cClose_ex he)
  | 4, _ => exact prS_ex hn hE (cSetW_ex he)
  | 5, _ => exact prS_ex hn hE (cPush_ex ht hg he)
  | 6, _ => exact prS_ex hn hE (cPush_ex ht hg he)
  | 7, _ => exact prS_ex hn hE (cPush_ex ht hg he)
  | 8, _ => exact prS_ex hn hE (cPush_ex ht hg he)
  | 9, _ => exact prS_ex hn hE (cPush_ex ht hg he)
  | 10, _ => exact prS_ex hn hE (cEdge_ex hg he)
  | 11, _ => exact prS_ex hn hE (cEdge_ex hg he)
  | 12, _ => exact prS_ex hn hE (cEdge_ex hg he)
  | 13, _ => exact prS_ex hn hE (cCommit_ex hg he)
  | 14, _ =>
    show ExS (if lowN more 3 = 0 then prS (n, w, P, Q, kp) (cRevert w (nI (lowN ((more) >>> ((nI 2) &&& 31)) 4))) else prS (n, w, P, Q, kp) (cCommit w)).2
    by_cases hc : lowN more 3 = 0
    · rw [if_pos hc]; exact prS_ex hn hE (cRevert_ex hg he)
    · rw [if_neg hc]; exact prS_ex hn hE (cCommit_ex hg he)
  | 15, _ => exact prS_ex hn hE (cSend_ex hg he)
  | 16, _ => exact prS_ex hn hE (cSend_ex hg he)
  | 17, _ => exact prS_ex hn hE (cSome_ex hg he)
  | 18, _ =>
    show ExS (if lowN more 2 = 0 then cKeep (n, w, P, Q, kp) (nI (lowN ((more) >>> ((nI 1) &&& 31)) 2)) else prS (n, w, P, Q, kp) (cBack (n, w, P, Q, kp) (nI (lowN ((more) >>> ((nI 1) &&& 31)) 2)))).2
    by_cases hc : lowN more 2 = 0
    · rw [if_pos hc]; exact cKeep_ex hE
    · rw [if_neg hc]; exact prS_ex hn hE (cBack_ex hE)
  | 19, _ => exact cUndo_ex hE
  | q + 20, hk => exact absurd hk (by omega)
